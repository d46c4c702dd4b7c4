theorem dX12_begin_77 : decode cX12_begin 77 = .ok (.iload 7, 2) := by decide +kernel
theorem dX12_begin_79 : decode cX12_begin 79 = .ok (.iload_n 2, 1) := by decide +kernel
theorem dX12_begin_80 : decode cX12_begin 80 = .ok (.iastore, 1) := by decide +kernel
theorem dX12_begin_81 : decode cX12_begin 81 = .ok (.aload_n 0, 1) := by decide +kernel
theorem dX12_begin_82 : decode cX12_begin 82 = .ok (.getfield 116, 3) := by decide +kernel
theorem dX12_begin_85 : decode cX12_begin 85 = .ok (.iload 7, 2) := by decide +kernel
theorem dX12_begin_87 : decode cX12_begin 87 = .ok (.iload_n 3, 1) := by decide +kernel
theorem dX12_begin_88 : decode cX12_begin 88 = .ok (.iastore, 1) := by decide +kernel
theorem dX12_begin_89 : decode cX12_begin 89 = .ok (.aload_n 0, 1) := by decide +kernel
theorem dX12_begin_90 : decode cX12_begin 90 = .ok (.getfield 119, 3) := by decide +kernel
theorem dX12_begin_93 : decode cX12_begin 93 = .ok (.iload 7, 2) := by decide +kernel
theorem dX12_begin_95 : decode cX12_begin 95 = .ok (.iload 4, 2) := by decide +kernel
theorem dX12_begin_97 : decode cX12_begin 97 = .ok (.iastore, 1) := by decide +kernel
theorem dX12_begin_98 : decode cX12_begin 98 = .ok (.aload_n 0, 1) := by decide +kernel
theorem dX12_begin_99 : decode cX12_begin 99 = .ok (.getfield 122, 3) := by decide +kernel
theorem dX12_begin_102 : decode cX12_begin 102 = .ok (.iload 7, 2) := by decide +kernel
theorem dX12_begin_104 : decode cX12_begin 104 = .ok (.iload 5, 2) := by decide +kernel
theorem dX12_begin_106 : decode cX12_begin 106 = .ok (.iastore, 1) := by decide +kernel
theorem dX12_begin_107 : decode cX12_begin 107 = .ok (.aload_n 0, 1) := by decide +kernel
theorem dX12_begin_108 : decode cX12_begin 108 = .ok (.getfield 125, 3) := by decide +kernel
theorem dX12_begin_111 : decode cX12_begin 111 = .ok (.iload 7, 2) := by decide +kernel
theorem dX12_begin_113 : decode cX12_begin 113 = .ok (.iconst 0, 1) := by decide +kernel
theorem dX12_begin_114 : decode cX12_begin 114 = .ok (.bastore, 1) := by decide +kernel
theorem dX12_begin_115 : decode cX12_begin 115 = .ok (.return_, 1) := by decide +kernel
theorem dX12_wayOf_0 : decode cX12_wayOf 0 = .ok (.iconst 0, 1) := by decide +kernel
theorem dX12_wayOf_1 : decode cX12_wayOf 1 = .ok (.istore_n 3, 1) := by decide +kernel
theorem dX12_wayOf_2 : decode cX12_wayOf 2 = .ok (.iload_n 3, 1) := by decide +kernel
theorem dX12_wayOf_3 : decode cX12_wayOf 3 = .ok (.aload_n 0, 1) := by decide +kernel
theorem dX12_wayOf_4 : decode cX12_wayOf 4 = .ok (.getfield 107, 3) := by decide +kernel
theorem dX12_wayOf_7 : decode cX12_wayOf 7 = .ok (.iload_n 1, 1) := by decide +kernel
theorem dX12_wayOf_8 : decode cX12_wayOf 8 = .ok (.iaload, 1) := by decide +kernel
theorem dX12_wayOf_9 : decode cX12_wayOf 9 = .ok (.if_icmp .ge 26, 3) := by decide +kernel
theorem dX12_wayOf_12 : decode cX12_wayOf 12 = .ok (.aload_n 0, 1) := by decide +kernel
theorem dX12_wayOf_13 : decode cX12_wayOf 13 = .ok (.getfield 110, 3) := by decide +kernel
theorem dX12_wayOf_16 : decode cX12_wayOf 16 = .ok (.bipush 16, 2) := by decide +kernel
theorem dX12_wayOf_18 : decode cX12_wayOf 18 = .ok (.iload_n 1, 1) := by decide +kernel
theorem dX12_wayOf_19 : decode cX12_wayOf 19 = .ok (.imul, 1) := by decide +kernel
theorem dX12_wayOf_20 : decode cX12_wayOf 20 = .ok (.iload_n 3, 1) := by decide +kernel
theorem dX12_wayOf_21 : decode cX12_wayOf 21 = .ok (.iadd, 1) := by decide +kernel
theorem dX12_wayOf_22 : decode cX12_wayOf 22 = .ok (.iaload, 1) := by decide +kernel
theorem dX12_wayOf_23 : decode cX12_wayOf 23 = .ok (.iload_n 2, 1) := by decide +kernel
theorem dX12_wayOf_24 : decode cX12_wayOf 24 = .ok (.if_icmp .ne 5, 3) := by decide +kernel
theorem dX12_wayOf_27 : decode cX12_wayOf 27 = .ok (.iload_n 3, 1) := by decide +kernel
theorem dX12_wayOf_28 : decode cX12_wayOf 28 = .ok (.ireturn, 1) := by decide +kernel
theorem dX12_wayOf_29 : decode cX12_wayOf 29 = .ok (.iinc 3 1, 3) := by decide +kernel
theorem dX12_wayOf_32 : decode cX12_wayOf 32 = .ok (.goto (-30), 3) := by decide +kernel
theorem dX12_wayOf_35 : decode cX12_wayOf 35 = .ok (.iconst (-1), 1) := by decide +kernel
theorem dX12_wayOf_36 : decode cX12_wayOf 36 = .ok (.ireturn, 1) := by decide +kernel
theorem dX12_pump_0 : decode cX12_pump 0 = .ok (.aload_n 0, 1) := by decide +kernel
theorem dX12_pump_1 : decode cX12_pump 1 = .ok (.getfield 46, 3) := by decide +kernel
theorem dX12_pump_4 : decode cX12_pump 4 = .ok (.iload_n 1, 1) := by decide +kernel
theorem dX12_pump_5 : decode cX12_pump 5 = .ok (.baload, 1) := by decide +kernel
theorem dX12_pump_6 : decode cX12_pump 6 = .ok (.ifCond .eq 167, 3) := by decide +kernel
theorem dX12_pump_9 : decode cX12_pump 9 = .ok (.aload_n 0, 1) := by decide +kernel
theorem dX12_pump_10 : decode cX12_pump 10 = .ok (.getfield 128, 3) := by decide +kernel
theorem dX12_pump_13 : decode cX12_pump 13 = .ok (.iload_n 1, 1) := by decide +kernel
theorem dX12_pump_14 : decode cX12_pump 14 = .ok (.iaload, 1) := by decide +kernel
theorem dX12_pump_15 : decode cX12_pump 15 = .ok (.ifCond .le 158, 3) := by decide +kernel
theorem dX12_pump_18 : decode cX12_pump 18 = .ok (.aload_n 0, 1) := by decide +kernel
theorem dX12_pump_19 : decode cX12_pump 19 = .ok (.iload_n 1, 1) := by decide +kernel
theorem dX12_pump_20 : decode cX12_pump 20 = .ok (.invokevirtual 534, 3) := by decide +kernel
theorem dX12_pump_23 : decode cX12_pump 23 = .ok (.ifCond .eq 150, 3) := by decide +kernel
theorem dX12_pump_26 : decode cX12_pump 26 = .ok (.bipush 24, 2) := by decide +kernel
theorem dX12_pump_28 : decode cX12_pump 28 = .ok (.iload_n 1, 1) := by decide +kernel
theorem dX12_pump_29 : decode cX12_pump 29 = .ok (.imul, 1) := by decide +kernel
theorem dX12_pump_30 : decode cX12_pump 30 = .ok (.istore_n 2, 1) := by decide +kernel
theorem dX12_pump_31 : decode cX12_pump 31 = .ok (.aload_n 0, 1) := by decide +kernel
theorem dX12_pump_32 : decode cX12_pump 32 = .ok (.getfield 131, 3) := by decide +kernel
theorem dX12_pump_35 : decode cX12_pump 35 = .ok (.iload_n 2, 1) := by decide +kernel
theorem dX12_pump_36 : decode cX12_pump 36 = .ok (.iaload, 1) := by decide +kernel
theorem dX12_pump_37 : decode cX12_pump 37 = .ok (.istore_n 3, 1) := by decide +kernel
theorem dX12_pump_38 : decode cX12_pump 38 = .ok (.aload_n 0, 1) := by decide +kernel
theorem dX12_pump_39 : decode cX12_pump 39 = .ok (.getfield 134, 3) := by decide +kernel
theorem dX12_pump_42 : decode cX12_pump 42 = .ok (.iload_n 2, 1) := by decide +kernel
theorem dX12_pump_43 : decode cX12_pump 43 = .ok (.iaload, 1) := by decide +kernel
theorem dX12_pump_44 : decode cX12_pump 44 = .ok (.istore 4, 2) := by decide +kernel
theorem dX12_pump_46 : decode cX12_pump 46 = .ok (.aload_n 0, 1) := by decide +kernel
theorem dX12_pump_47 : decode cX12_pump 47 = .ok (.getfield 137, 3) := by decide +kernel
theorem dX12_pump_50 : decode cX12_pump 50 = .ok (.iload_n 2, 1) := by decide +kernel
theorem dX12_pump_51 : decode cX12_pump 51 = .ok (.iaload, 1) := by decide +kernel
theorem dX12_pump_52 : decode cX12_pump 52 = .ok (.istore 5, 2) := by decide +kernel
theorem dX12_pump_54 : decode cX12_pump 54 = .ok (.aload_n 0, 1) := by decide +kernel
theorem dX12_pump_55 : decode cX12_pump 55 = .ok (.getfield 140, 3) := by decide +kernel
theorem dX12_pump_58 : decode cX12_pump 58 = .ok (.iload_n 2, 1) := by decide +kernel
theorem dX12_pump_59 : decode cX12_pump 59 = .ok (.iaload, 1) := by decide +kernel
theorem dX12_pump_60 : decode cX12_pump 60 = .ok (.istore 6, 2) := by decide +kernel
theorem dX12_pump_62 : decode cX12_pump 62 = .ok (.aload_n 0, 1) := by decide +kernel
theorem dX12_pump_63 : decode cX12_pump 63 = .ok (.getfield 128, 3) := by decide +kernel
theorem dX12_pump_66 : decode cX12_pump 66 = .ok (.iload_n 1, 1) := by decide +kernel
theorem dX12_pump_67 : decode cX12_pump 67 = .ok (.dup2, 1) := by decide +kernel
theorem dX12_pump_68 : decode cX12_pump 68 = .ok (.iaload, 1) := by decide +kernel
theorem dX12_pump_69 : decode cX12_pump 69 = .ok (.iconst 1, 1) := by decide +kernel
theorem dX12_pump_70 : decode cX12_pump 70 = .ok (.isub, 1) := by decide +kernel
theorem dX12_pump_71 : decode cX12_pump 71 = .ok (.iastore, 1) := by decide +kernel
theorem dX12_pump_72 : decode cX12_pump 72 = .ok (.iload_n 2, 1) := by decide +kernel
theorem dX12_pump_73 : decode cX12_pump 73 = .ok (.istore 7, 2) := by decide +kernel
theorem dX12_pump_75 : decode cX12_pump 75 = .ok (.iload 7, 2) := by decide +kernel
theorem dX12_pump_77 : decode cX12_pump 77 = .ok (.iload_n 2, 1) := by decide +kernel
theorem dX12_pump_78 : decode cX12_pump 78 = .ok (.aload_n 0, 1) := by decide +kernel
theorem dX12_pump_79 : decode cX12_pump 79 = .ok (.getfield 128, 3) := by decide +kernel
theorem dX12_pump_82 : decode cX12_pump 82 = .ok (.iload_n 1, 1) := by decide +kernel
theorem dX12_pump_83 : decode cX12_pump 83 = .ok (.iaload, 1) := by decide +kernel
theorem dX12_pump_84 : decode cX12_pump 84 = .ok (.iadd, 1) := by decide +kernel
theorem dX12_pump_85 : decode cX12_pump 85 = .ok (.if_icmp .ge 73, 3) := by decide +kernel
theorem dX12_pump_88 : decode cX12_pump 88 = .ok (.aload_n 0, 1) := by decide +kernel
theorem dX12_pump_89 : decode cX12_pump 89 = .ok (.getfield 131, 3) := by decide +kernel
theorem dX12_pump_92 : decode cX12_pump 92 = .ok (.iload 7, 2) := by decide +kernel
theorem dX12_pump_94 : decode cX12_pump 94 = .ok (.aload_n 0, 1) := by decide +kernel
theorem dX12_pump_95 : decode cX12_pump 95 = .ok (.getfield 131, 3) := by decide +kernel
theorem dX12_pump_98 : decode cX12_pump 98 = .ok (.iload 7, 2) := by decide +kernel
theorem dX12_pump_100 : decode cX12_pump 100 = .ok (.iconst 1, 1) := by decide +kernel
theorem dX12_pump_101 : decode cX12_pump 101 = .ok (.iadd, 1) := by decide +kernel
theorem dX12_pump_102 : decode cX12_pump 102 = .ok (.iaload, 1) := by decide +kernel
theorem dX12_pump_103 : decode cX12_pump 103 = .ok (.iastore, 1) := by decide +kernel
theorem dX12_pump_104 : decode cX12_pump 104 = .ok (.aload_n 0, 1) := by decide +kernel
theorem dX12_pump_105 : decode cX12_pump 105 = .ok (.getfield 134, 3) := by decide +kernel
theorem dX12_pump_108 : decode cX12_pump 108 = .ok (.iload 7, 2) := by decide +kernel
theorem dX12_pump_110 : decode cX12_pump 110 = .ok (.aload_n 0, 1) := by decide +kernel
theorem dX12_pump_111 : decode cX12_pump 111 = .ok (.getfield 134, 3) := by decide +kernel
theorem dX12_pump_114 : decode cX12_pump 114 = .ok (.iload 7, 2) := by decide +kernel
theorem dX12_pump_116 : decode cX12_pump 116 = .ok (.iconst 1, 1) := by decide +kernel
theorem dX12_pump_117 : decode cX12_pump 117 = .ok (.iadd, 1) := by decide +kernel
theorem dX12_pump_118 : decode cX12_pump 118 = .ok (.iaload, 1) := by decide +kernel
theorem dX12_pump_119 : decode cX12_pump 119 = .ok (.iastore, 1) := by decide +kernel
theorem dX12_pump_120 : decode cX12_pump 120 = .ok (.aload_n 0, 1) := by decide +kernel
theorem dX12_pump_121 : decode cX12_pump 121 = .ok (.getfield 137, 3) := by decide +kernel
theorem dX12_pump_124 : decode cX12_pump 124 = .ok (.iload 7, 2) := by decide +kernel
theorem dX12_pump_126 : decode cX12_pump 126 = .ok (.aload_n 0, 1) := by decide +kernel
theorem dX12_pump_127 : decode cX12_pump 127 = .ok (.getfield 137, 3) := by decide +kernel
theorem dX12_pump_130 : decode cX12_pump 130 = .ok (.iload 7, 2) := by decide +kernel
theorem dX12_pump_132 : decode cX12_pump 132 = .ok (.iconst 1, 1) := by decide +kernel
theorem dX12_pump_133 : decode cX12_pump 133 = .ok (.iadd, 1) := by decide +kernel
theorem dX12_pump_134 : decode cX12_pump 134 = .ok (.iaload, 1) := by decide +kernel
theorem dX12_pump_135 : decode cX12_pump 135 = .ok (.iastore, 1) := by decide +kernel
theorem dX12_pump_136 : decode cX12_pump 136 = .ok (.aload_n 0, 1) := by decide +kernel
theorem dX12_pump_137 : decode cX12_pump 137 = .ok (.getfield 140, 3) := by decide +kernel
theorem dX12_pump_140 : decode cX12_pump 140 = .ok (.iload 7, 2) := by decide +kernel
theorem dX12_pump_142 : decode cX12_pump 142 = .ok (.aload_n 0, 1) := by decide +kernel
theorem dX12_pump_143 : decode cX12_pump 143 = .ok (.getfield 140, 3) := by decide +kernel
theorem dX12_pump_146 : decode cX12_pump 146 = .ok (.iload 7, 2) := by decide +kernel
theorem dX12_pump_148 : decode cX12_pump 148 = .ok (.iconst 1, 1) := by decide +kernel
theorem dX12_pump_149 : decode cX12_pump 149 = .ok (.iadd, 1) := by decide +kernel
theorem dX12_pump_150 : decode cX12_pump 150 = .ok (.iaload, 1) := by decide +kernel
theorem dX12_pump_151 : decode cX12_pump 151 = .ok (.iastore, 1) := by decide +kernel
theorem dX12_pump_152 : decode cX12_pump 152 = .ok (.iinc 7 1, 3) := by decide +kernel
theorem dX12_pump_155 : decode cX12_pump 155 = .ok (.goto (-80), 3) := by decide +kernel
theorem dX12_pump_158 : decode cX12_pump 158 = .ok (.aload_n 0, 1) := by decide +kernel
theorem dX12_pump_159 : decode cX12_pump 159 = .ok (.iload_n 1, 1) := by decide +kernel
theorem dX12_pump_160 : decode cX12_pump 160 = .ok (.iload_n 3, 1) := by decide +kernel
theorem dX12_pump_161 : decode cX12_pump 161 = .ok (.iload 4, 2) := by decide +kernel
theorem dX12_pump_163 : decode cX12_pump 163 = .ok (.iload 5, 2) := by decide +kernel
theorem dX12_pump_165 : decode cX12_pump 165 = .ok (.iload 6, 2) := by decide +kernel
theorem dX12_pump_167 : decode cX12_pump 167 = .ok (.invokevirtual 537, 3) := by decide +kernel
theorem dX12_pump_170 : decode cX12_pump 170 = .ok (.goto (-170), 3) := by decide +kernel
theorem dX12_pump_173 : decode cX12_pump 173 = .ok (.return_, 1) := by decide +kernel
theorem dX12_sendPublish_0 : decode cX12_sendPublish 0 = .ok (.aload_n 0, 1) := by decide +kernel
theorem dX12_sendPublish_1 : decode cX12_sendPublish 1 = .ok (.iconst 0, 1) := by decide +kernel
theorem dX12_sendPublish_2 : decode cX12_sendPublish 2 = .ok (.putfield 450, 3) := by decide +kernel
theorem dX12_sendPublish_5 : decode cX12_sendPublish 5 = .ok (.aload_n 0, 1) := by decide +kernel
theorem dX12_sendPublish_6 : decode cX12_sendPublish 6 = .ok (.aload_n 0, 1) := by decide +kernel
theorem dX12_sendPublish_7 : decode cX12_sendPublish 7 = .ok (.getfield 153, 3) := by decide +kernel
theorem dX12_sendPublish_10 : decode cX12_sendPublish 10 = .ok (.iload_n 2, 1) := by decide +kernel
theorem dX12_sendPublish_11 : decode cX12_sendPublish 11 = .ok (.iaload, 1) := by decide +kernel
theorem dX12_sendPublish_12 : decode cX12_sendPublish 12 = .ok (.bipush 8, 2) := by decide +kernel
theorem dX12_sendPublish_14 : decode cX12_sendPublish 14 = .ok (.ishr, 1) := by decide +kernel
theorem dX12_sendPublish_15 : decode cX12_sendPublish 15 = .ok (.invokevirtual 453, 3) := by decide +kernel
theorem dX12_sendPublish_18 : decode cX12_sendPublish 18 = .ok (.aload_n 0, 1) := by decide +kernel
theorem dX12_sendPublish_19 : decode cX12_sendPublish 19 = .ok (.aload_n 0, 1) := by decide +kernel
theorem dX12_sendPublish_20 : decode cX12_sendPublish 20 = .ok (.getfield 153, 3) := by decide +kernel
theorem dX12_sendPublish_23 : decode cX12_sendPublish 23 = .ok (.iload_n 2, 1) := by decide +kernel
theorem dX12_sendPublish_24 : decode cX12_sendPublish 24 = .ok (.iaload, 1) := by decide +kernel
theorem dX12_sendPublish_25 : decode cX12_sendPublish 25 = .ok (.invokevirtual 453, 3) := by decide +kernel
theorem dX12_sendPublish_28 : decode cX12_sendPublish 28 = .ok (.iconst 0, 1) := by decide +kernel
theorem dX12_sendPublish_29 : decode cX12_sendPublish 29 = .ok (.istore 8, 2) := by decide +kernel
theorem dX12_sendPublish_31 : decode cX12_sendPublish 31 = .ok (.iload 8, 2) := by decide +kernel
theorem dX12_sendPublish_33 : decode cX12_sendPublish 33 = .ok (.aload_n 0, 1) := by decide +kernel
theorem dX12_sendPublish_34 : decode cX12_sendPublish 34 = .ok (.getfield 153, 3) := by decide +kernel
theorem dX12_sendPublish_37 : decode cX12_sendPublish 37 = .ok (.iload_n 2, 1) := by decide +kernel
theorem dX12_sendPublish_38 : decode cX12_sendPublish 38 = .ok (.iaload, 1) := by decide +kernel
theorem dX12_sendPublish_39 : decode cX12_sendPublish 39 = .ok (.if_icmp .ge 26, 3) := by decide +kernel
theorem dX12_sendPublish_42 : decode cX12_sendPublish 42 = .ok (.aload_n 0, 1) := by decide +kernel
theorem dX12_sendPublish_43 : decode cX12_sendPublish 43 = .ok (.aload_n 0, 1) := by decide +kernel
theorem dX12_sendPublish_44 : decode cX12_sendPublish 44 = .ok (.getfield 150, 3) := by decide +kernel
theorem dX12_sendPublish_47 : decode cX12_sendPublish 47 = .ok (.sipush 480, 3) := by decide +kernel
theorem dX12_sendPublish_50 : decode cX12_sendPublish 50 = .ok (.iload_n 2, 1) := by decide +kernel
theorem dX12_sendPublish_51 : decode cX12_sendPublish 51 = .ok (.imul, 1) := by decide +kernel
theorem dX12_sendPublish_52 : decode cX12_sendPublish 52 = .ok (.iload 8, 2) := by decide +kernel
theorem dX12_sendPublish_54 : decode cX12_sendPublish 54 = .ok (.iadd, 1) := by decide +kernel
theorem dX12_sendPublish_55 : decode cX12_sendPublish 55 = .ok (.baload, 1) := by decide +kernel
theorem dX12_sendPublish_56 : decode cX12_sendPublish 56 = .ok (.invokevirtual 453, 3) := by decide +kernel
theorem dX12_sendPublish_59 : decode cX12_sendPublish 59 = .ok (.iinc 8 1, 3) := by decide +kernel
theorem dX12_sendPublish_62 : decode cX12_sendPublish 62 = .ok (.goto (-31), 3) := by decide +kernel
theorem dX12_sendPublish_65 : decode cX12_sendPublish 65 = .ok (.iload_n 3, 1) := by decide +kernel
theorem dX12_sendPublish_66 : decode cX12_sendPublish 66 = .ok (.ifCond .le 18, 3) := by decide +kernel
theorem dX12_sendPublish_69 : decode cX12_sendPublish 69 = .ok (.aload_n 0, 1) := by decide +kernel
theorem dX12_sendPublish_70 : decode cX12_sendPublish 70 = .ok (.iload 6, 2) := by decide +kernel
theorem dX12_sendPublish_72 : decode cX12_sendPublish 72 = .ok (.bipush 8, 2) := by decide +kernel
theorem dX12_sendPublish_74 : decode cX12_sendPublish 74 = .ok (.ishr, 1) := by decide +kernel
theorem dX12_sendPublish_75 : decode cX12_sendPublish 75 = .ok (.invokevirtual 453, 3) := by decide +kernel
theorem dX12_sendPublish_78 : decode cX12_sendPublish 78 = .ok (.aload_n 0, 1) := by decide +kernel
theorem dX12_sendPublish_79 : decode cX12_sendPublish 79 = .ok (.iload 6, 2) := by decide +kernel
theorem dX12_sendPublish_81 : decode cX12_sendPublish 81 = .ok (.invokevirtual 453, 3) := by decide +kernel
theorem dX12_sendPublish_84 : decode cX12_sendPublish 84 = .ok (.aload_n 0, 1) := by decide +kernel
theorem dX12_sendPublish_85 : decode cX12_sendPublish 85 = .ok (.getfield 192, 3) := by decide +kernel
theorem dX12_sendPublish_88 : decode cX12_sendPublish 88 = .ok (.iload_n 2, 1) := by decide +kernel
theorem dX12_sendPublish_89 : decode cX12_sendPublish 89 = .ok (.iaload, 1) := by decide +kernel
theorem dX12_sendPublish_90 : decode cX12_sendPublish 90 = .ok (.istore 8, 2) := by decide +kernel
theorem dX12_sendPublish_92 : decode cX12_sendPublish 92 = .ok (.aload_n 0, 1) := by decide +kernel
theorem dX12_sendPublish_93 : decode cX12_sendPublish 93 = .ok (.getfield 162, 3) := by decide +kernel
theorem dX12_sendPublish_96 : decode cX12_sendPublish 96 = .ok (.iload_n 2, 1) := by decide +kernel
theorem dX12_sendPublish_97 : decode cX12_sendPublish 97 = .ok (.iaload, 1) := by decide +kernel
theorem dX12_sendPublish_98 : decode cX12_sendPublish 98 = .ok (.ifCond .ge 7, 3) := by decide +kernel
theorem dX12_sendPublish_101 : decode cX12_sendPublish 101 = .ok (.iconst 0, 1) := by decide +kernel
theorem dX12_sendPublish_102 : decode cX12_sendPublish 102 = .ok (.goto 4, 3) := by decide +kernel
theorem dX12_sendPublish_105 : decode cX12_sendPublish 105 = .ok (.iconst 2, 1) := by decide +kernel
theorem dX12_sendPublish_106 : decode cX12_sendPublish 106 = .ok (.aload_n 0, 1) := by decide +kernel
theorem dX12_sendPublish_107 : decode cX12_sendPublish 107 = .ok (.getfield 165, 3) := by decide +kernel
theorem dX12_sendPublish_110 : decode cX12_sendPublish 110 = .ok (.iload_n 2, 1) := by decide +kernel
theorem dX12_sendPublish_111 : decode cX12_sendPublish 111 = .ok (.laload, 1) := by decide +kernel
theorem dX12_sendPublish_112 : decode cX12_sendPublish 112 = .ok (.lconst 0, 1) := by decide +kernel
theorem dX12_sendPublish_113 : decode cX12_sendPublish 113 = .ok (.lcmp, 1) := by decide +kernel
theorem dX12_sendPublish_114 : decode cX12_sendPublish 114 = .ok (.ifCond .ge 7, 3) := by decide +kernel
theorem dX12_sendPublish_117 : decode cX12_sendPublish 117 = .ok (.iconst 0, 1) := by decide +kernel
theorem dX12_sendPublish_118 : decode cX12_sendPublish 118 = .ok (.goto 4, 3) := by decide +kernel
theorem dX12_sendPublish_121 : decode cX12_sendPublish 121 = .ok (.iconst 5, 1) := by decide +kernel
theorem dX12_sendPublish_122 : decode cX12_sendPublish 122 = .ok (.iadd, 1) := by decide +kernel
theorem dX12_sendPublish_123 : decode cX12_sendPublish 123 = .ok (.aload_n 0, 1) := by decide +kernel
theorem dX12_sendPublish_124 : decode cX12_sendPublish 124 = .ok (.getfield 174, 3) := by decide +kernel
theorem dX12_sendPublish_127 : decode cX12_sendPublish 127 = .ok (.iload_n 2, 1) := by decide +kernel
theorem dX12_sendPublish_128 : decode cX12_sendPublish 128 = .ok (.iaload, 1) := by decide +kernel
theorem dX12_sendPublish_129 : decode cX12_sendPublish 129 = .ok (.ifCond .ge 7, 3) := by decide +kernel
theorem dX12_sendPublish_132 : decode cX12_sendPublish 132 = .ok (.iconst 0, 1) := by decide +kernel
theorem dX12_sendPublish_133 : decode cX12_sendPublish 133 = .ok (.goto 11, 3) := by decide +kernel
theorem dX12_sendPublish_136 : decode cX12_sendPublish 136 = .ok (.iconst 3, 1) := by decide +kernel
theorem dX12_sendPublish_137 : decode cX12_sendPublish 137 = .ok (.aload_n 0, 1) := by decide +kernel
theorem dX12_sendPublish_138 : decode cX12_sendPublish 138 = .ok (.getfield 174, 3) := by decide +kernel
theorem dX12_sendPublish_141 : decode cX12_sendPublish 141 = .ok (.iload_n 2, 1) := by decide +kernel
theorem dX12_sendPublish_142 : decode cX12_sendPublish 142 = .ok (.iaload, 1) := by decide +kernel
theorem dX12_sendPublish_143 : decode cX12_sendPublish 143 = .ok (.iadd, 1) := by decide +kernel
theorem dX12_sendPublish_144 : decode cX12_sendPublish 144 = .ok (.iadd, 1) := by decide +kernel
theorem dX12_sendPublish_145 : decode cX12_sendPublish 145 = .ok (.aload_n 0, 1) := by decide +kernel
theorem dX12_sendPublish_146 : decode cX12_sendPublish 146 = .ok (.getfield 180, 3) := by decide +kernel
theorem dX12_sendPublish_149 : decode cX12_sendPublish 149 = .ok (.iload_n 2, 1) := by decide +kernel
theorem dX12_sendPublish_150 : decode cX12_sendPublish 150 = .ok (.iaload, 1) := by decide +kernel
theorem dX12_sendPublish_151 : decode cX12_sendPublish 151 = .ok (.ifCond .ge 7, 3) := by decide +kernel
theorem dX12_sendPublish_154 : decode cX12_sendPublish 154 = .ok (.iconst 0, 1) := by decide +kernel
theorem dX12_sendPublish_155 : decode cX12_sendPublish 155 = .ok (.goto 11, 3) := by decide +kernel
theorem dX12_sendPublish_158 : decode cX12_sendPublish 158 = .ok (.iconst 3, 1) := by decide +kernel
theorem dX12_sendPublish_159 : decode cX12_sendPublish 159 = .ok (.aload_n 0, 1) := by decide +kernel
theorem dX12_sendPublish_160 : decode cX12_sendPublish 160 = .ok (.getfield 180, 3) := by decide +kernel
theorem dX12_sendPublish_163 : decode cX12_sendPublish 163 = .ok (.iload_n 2, 1) := by decide +kernel
theorem dX12_sendPublish_164 : decode cX12_sendPublish 164 = .ok (.iaload, 1) := by decide +kernel
theorem dX12_sendPublish_165 : decode cX12_sendPublish 165 = .ok (.iadd, 1) := by decide +kernel
theorem dX12_sendPublish_166 : decode cX12_sendPublish 166 = .ok (.iadd, 1) := by decide +kernel
theorem dX12_sendPublish_167 : decode cX12_sendPublish 167 = .ok (.aload_n 0, 1) := by decide +kernel
theorem dX12_sendPublish_168 : decode cX12_sendPublish 168 = .ok (.getfield 186, 3) := by decide +kernel
theorem dX12_sendPublish_171 : decode cX12_sendPublish 171 = .ok (.iload_n 2, 1) := by decide +kernel
theorem dX12_sendPublish_172 : decode cX12_sendPublish 172 = .ok (.iaload, 1) := by decide +kernel
theorem dX12_sendPublish_173 : decode cX12_sendPublish 173 = .ok (.ifCond .ge 7, 3) := by decide +kernel
theorem dX12_sendPublish_176 : decode cX12_sendPublish 176 = .ok (.iconst 0, 1) := by decide +kernel
theorem dX12_sendPublish_177 : decode cX12_sendPublish 177 = .ok (.goto 11, 3) := by decide +kernel
theorem dX12_sendPublish_180 : decode cX12_sendPublish 180 = .ok (.iconst 3, 1) := by decide +kernel
theorem dX12_sendPublish_181 : decode cX12_sendPublish 181 = .ok (.aload_n 0, 1) := by decide +kernel
theorem dX12_sendPublish_182 : decode cX12_sendPublish 182 = .ok (.getfield 186, 3) := by decide +kernel
theorem dX12_sendPublish_185 : decode cX12_sendPublish 185 = .ok (.iload_n 2, 1) := by decide +kernel
theorem dX12_sendPublish_186 : decode cX12_sendPublish 186 = .ok (.iaload, 1) := by decide +kernel
theorem dX12_sendPublish_187 : decode cX12_sendPublish 187 = .ok (.iadd, 1) := by decide +kernel
theorem dX12_sendPublish_188 : decode cX12_sendPublish 188 = .ok (.iadd, 1) := by decide +kernel
theorem dX12_sendPublish_189 : decode cX12_sendPublish 189 = .ok (.iload 8, 2) := by decide +kernel
theorem dX12_sendPublish_191 : decode cX12_sendPublish 191 = .ok (.iadd, 1) := by decide +kernel
theorem dX12_sendPublish_192 : decode cX12_sendPublish 192 = .ok (.istore 9, 2) := by decide +kernel
theorem dX12_sendPublish_194 : decode cX12_sendPublish 194 = .ok (.iload 9, 2) := by decide +kernel
theorem dX12_sendPublish_196 : decode cX12_sendPublish 196 = .ok (.iload 5, 2) := by decide +kernel
theorem dX12_sendPublish_198 : decode cX12_sendPublish 198 = .ok (.ifCond .ne 7, 3) := by decide +kernel
theorem dX12_sendPublish_201 : decode cX12_sendPublish 201 = .ok (.iconst 0, 1) := by decide +kernel
theorem dX12_sendPublish_202 : decode cX12_sendPublish 202 = .ok (.goto 40, 3) := by decide +kernel
theorem dX12_sendPublish_205 : decode cX12_sendPublish 205 = .ok (.iload 5, 2) := by decide +kernel
theorem dX12_sendPublish_207 : decode cX12_sendPublish 207 = .ok (.sipush 128, 3) := by decide +kernel
theorem dX12_sendPublish_210 : decode cX12_sendPublish 210 = .ok (.if_icmp .ge 7, 3) := by decide +kernel
theorem dX12_sendPublish_213 : decode cX12_sendPublish 213 = .ok (.iconst 2, 1) := by decide +kernel
theorem dX12_sendPublish_214 : decode cX12_sendPublish 214 = .ok (.goto 28, 3) := by decide +kernel
theorem dX12_sendPublish_217 : decode cX12_sendPublish 217 = .ok (.iload 5, 2) := by decide +kernel
theorem dX12_sendPublish_219 : decode cX12_sendPublish 219 = .ok (.sipush 16384, 3) := by decide +kernel
theorem dX12_sendPublish_222 : decode cX12_sendPublish 222 = .ok (.if_icmp .ge 7, 3) := by decide +kernel
theorem dX12_sendPublish_225 : decode cX12_sendPublish 225 = .ok (.iconst 3, 1) := by decide +kernel
theorem dX12_sendPublish_226 : decode cX12_sendPublish 226 = .ok (.goto 16, 3) := by decide +kernel
theorem dX12_sendPublish_229 : decode cX12_sendPublish 229 = .ok (.iload 5, 2) := by decide +kernel
theorem dX12_sendPublish_231 : decode cX12_sendPublish 231 = .ok (.ldc_w 547, 3) := by decide +kernel
theorem dX12_sendPublish_234 : decode cX12_sendPublish 234 = .ok (.if_icmp .ge 7, 3) := by decide +kernel
theorem dX12_sendPublish_237 : decode cX12_sendPublish 237 = .ok (.iconst 4, 1) := by decide +kernel
theorem dX12_sendPublish_238 : decode cX12_sendPublish 238 = .ok (.goto 4, 3) := by decide +kernel
theorem dX12_sendPublish_241 : decode cX12_sendPublish 241 = .ok (.iconst 5, 1) := by decide +kernel
theorem dX12_sendPublish_242 : decode cX12_sendPublish 242 = .ok (.iadd, 1) := by decide +kernel
theorem dX12_sendPublish_243 : decode cX12_sendPublish 243 = .ok (.istore 9, 2) := by decide +kernel
theorem dX12_sendPublish_245 : decode cX12_sendPublish 245 = .ok (.aload_n 0, 1) := by decide +kernel
theorem dX12_sendPublish_246 : decode cX12_sendPublish 246 = .ok (.iload 9, 2) := by decide +kernel
theorem dX12_sendPublish_248 : decode cX12_sendPublish 248 = .ok (.i2l, 1) := by decide +kernel
theorem dX12_sendPublish_249 : decode cX12_sendPublish 249 = .ok (.invokevirtual 548, 3) := by decide +kernel
theorem dX12_sendPublish_252 : decode cX12_sendPublish 252 = .ok (.aload_n 0, 1) := by decide +kernel
theorem dX12_sendPublish_253 : decode cX12_sendPublish 253 = .ok (.getfield 162, 3) := by decide +kernel
theorem dX12_sendPublish_256 : decode cX12_sendPublish 256 = .ok (.iload_n 2, 1) := by decide +kernel
theorem dX12_sendPublish_257 : decode cX12_sendPublish 257 = .ok (.iaload, 1) := by decide +kernel
theorem dX12_sendPublish_258 : decode cX12_sendPublish 258 = .ok (.ifCond .lt 18, 3) := by decide +kernel
theorem dX12_sendPublish_261 : decode cX12_sendPublish 261 = .ok (.aload_n 0, 1) := by decide +kernel
theorem dX12_sendPublish_262 : decode cX12_sendPublish 262 = .ok (.iconst 1, 1) := by decide +kernel
theorem dX12_sendPublish_263 : decode cX12_sendPublish 263 = .ok (.invokevirtual 453, 3) := by decide +kernel
theorem dX12_sendPublish_266 : decode cX12_sendPublish 266 = .ok (.aload_n 0, 1) := by decide +kernel
theorem dX12_sendPublish_267 : decode cX12_sendPublish 267 = .ok (.aload_n 0, 1) := by decide +kernel
theorem dX12_sendPublish_268 : decode cX12_sendPublish 268 = .ok (.getfield 162, 3) := by decide +kernel
theorem dX12_sendPublish_271 : decode cX12_sendPublish 271 = .ok (.iload_n 2, 1) := by decide +kernel
theorem dX12_sendPublish_272 : decode cX12_sendPublish 272 = .ok (.iaload, 1) := by decide +kernel
theorem dX12_sendPublish_273 : decode cX12_sendPublish 273 = .ok (.invokevirtual 453, 3) := by decide +kernel
theorem dX12_sendPublish_276 : decode cX12_sendPublish 276 = .ok (.aload_n 0, 1) := by decide +kernel
theorem dX12_sendPublish_277 : decode cX12_sendPublish 277 = .ok (.getfield 165, 3) := by decide +kernel
theorem dX12_sendPublish_280 : decode cX12_sendPublish 280 = .ok (.iload_n 2, 1) := by decide +kernel
theorem dX12_sendPublish_281 : decode cX12_sendPublish 281 = .ok (.laload, 1) := by decide +kernel
theorem dX12_sendPublish_282 : decode cX12_sendPublish 282 = .ok (.lconst 0, 1) := by decide +kernel
theorem dX12_sendPublish_283 : decode cX12_sendPublish 283 = .ok (.lcmp, 1) := by decide +kernel
theorem dX12_sendPublish_284 : decode cX12_sendPublish 284 = .ok (.ifCond .lt 58, 3) := by decide +kernel
theorem dX12_sendPublish_287 : decode cX12_sendPublish 287 = .ok (.lconst 0, 1) := by decide +kernel
theorem dX12_sendPublish_288 : decode cX12_sendPublish 288 = .ok (.aload_n 0, 1) := by decide +kernel
theorem dX12_sendPublish_289 : decode cX12_sendPublish 289 = .ok (.getfield 165, 3) := by decide +kernel
theorem dX12_sendPublish_292 : decode cX12_sendPublish 292 = .ok (.iload_n 2, 1) := by decide +kernel
theorem dX12_sendPublish_293 : decode cX12_sendPublish 293 = .ok (.laload, 1) := by decide +kernel
theorem dX12_sendPublish_294 : decode cX12_sendPublish 294 = .ok (.aload_n 0, 1) := by decide +kernel
theorem dX12_sendPublish_295 : decode cX12_sendPublish 295 = .ok (.getfield 268, 3) := by decide +kernel
theorem dX12_sendPublish_298 : decode cX12_sendPublish 298 = .ok (.aload_n 0, 1) := by decide +kernel
theorem dX12_sendPublish_299 : decode cX12_sendPublish 299 = .ok (.getfield 168, 3) := by decide +kernel
theorem dX12_sendPublish_302 : decode cX12_sendPublish 302 = .ok (.iload_n 2, 1) := by decide +kernel
theorem dX12_sendPublish_303 : decode cX12_sendPublish 303 = .ok (.iaload, 1) := by decide +kernel
theorem dX12_sendPublish_304 : decode cX12_sendPublish 304 = .ok (.isub, 1) := by decide +kernel
theorem dX12_sendPublish_305 : decode cX12_sendPublish 305 = .ok (.i2l, 1) := by decide +kernel
theorem dX12_sendPublish_306 : decode cX12_sendPublish 306 = .ok (.lsub, 1) := by decide +kernel
theorem dX12_sendPublish_307 : decode cX12_sendPublish 307 = .ok (.invokestatic 551, 3) := by decide +kernel
theorem dX12_sendPublish_310 : decode cX12_sendPublish 310 = .ok (.lstore 10, 2) := by decide +kernel
theorem dX12_sendPublish_312 : decode cX12_sendPublish 312 = .ok (.aload_n 0, 1) := by decide +kernel
theorem dX12_sendPublish_313 : decode cX12_sendPublish 313 = .ok (.iconst 2, 1) := by decide +kernel
theorem dX12_sendPublish_314 : decode cX12_sendPublish 314 = .ok (.invokevirtual 453, 3) := by decide +kernel
theorem dX12_sendPublish_317 : decode cX12_sendPublish 317 = .ok (.bipush 24, 2) := by decide +kernel
theorem dX12_sendPublish_319 : decode cX12_sendPublish 319 = .ok (.istore 12, 2) := by decide +kernel
theorem dX12_sendPublish_321 : decode cX12_sendPublish 321 = .ok (.iload 12, 2) := by decide +kernel
theorem dX12_sendPublish_323 : decode cX12_sendPublish 323 = .ok (.ifCond .lt 19, 3) := by decide +kernel
theorem dX12_sendPublish_326 : decode cX12_sendPublish 326 = .ok (.aload_n 0, 1) := by decide +kernel
theorem dX12_sendPublish_327 : decode cX12_sendPublish 327 = .ok (.lload 10, 2) := by decide +kernel
theorem dX12_sendPublish_329 : decode cX12_sendPublish 329 = .ok (.iload 12, 2) := by decide +kernel
theorem dX12_sendPublish_331 : decode cX12_sendPublish 331 = .ok (.lshr, 1) := by decide +kernel
theorem dX12_sendPublish_332 : decode cX12_sendPublish 332 = .ok (.l2i, 1) := by decide +kernel
theorem dX12_sendPublish_333 : decode cX12_sendPublish 333 = .ok (.invokevirtual 453, 3) := by decide +kernel
theorem dX12_sendPublish_336 : decode cX12_sendPublish 336 = .ok (.iinc 12 (-8), 3) := by decide +kernel
theorem dX12_sendPublish_339 : decode cX12_sendPublish 339 = .ok (.goto (-18), 3) := by decide +kernel
theorem dX12_sendPublish_342 : decode cX12_sendPublish 342 = .ok (.aload_n 0, 1) := by decide +kernel
theorem dX12_sendPublish_343 : decode cX12_sendPublish 343 = .ok (.iconst 3, 1) := by decide +kernel
theorem dX12_sendPublish_344 : decode cX12_sendPublish 344 = .ok (.aload_n 0, 1) := by decide +kernel
theorem dX12_sendPublish_345 : decode cX12_sendPublish 345 = .ok (.getfield 171, 3) := by decide +kernel
theorem dX12_sendPublish_348 : decode cX12_sendPublish 348 = .ok (.iload_n 2, 1) := by decide +kernel
theorem dX12_sendPublish_349 : decode cX12_sendPublish 349 = .ok (.iaload, 1) := by decide +kernel
theorem dX12_sendPublish_350 : decode cX12_sendPublish 350 = .ok (.aload_n 0, 1) := by decide +kernel
theorem dX12_sendPublish_351 : decode cX12_sendPublish 351 = .ok (.getfield 174, 3) := by decide +kernel
theorem dX12_sendPublish_354 : decode cX12_sendPublish 354 = .ok (.iload_n 2, 1) := by decide +kernel
theorem dX12_sendPublish_355 : decode cX12_sendPublish 355 = .ok (.iaload, 1) := by decide +kernel
theorem dX12_sendPublish_356 : decode cX12_sendPublish 356 = .ok (.invokevirtual 555, 3) := by decide +kernel
theorem dX12_sendPublish_359 : decode cX12_sendPublish 359 = .ok (.aload_n 0, 1) := by decide +kernel
theorem dX12_sendPublish_360 : decode cX12_sendPublish 360 = .ok (.bipush 8, 2) := by decide +kernel
theorem dX12_sendPublish_362 : decode cX12_sendPublish 362 = .ok (.aload_n 0, 1) := by decide +kernel
theorem dX12_sendPublish_363 : decode cX12_sendPublish 363 = .ok (.getfield 177, 3) := by decide +kernel
theorem dX12_sendPublish_366 : decode cX12_sendPublish 366 = .ok (.iload_n 2, 1) := by decide +kernel
theorem dX12_sendPublish_367 : decode cX12_sendPublish 367 = .ok (.iaload, 1) := by decide +kernel
theorem dX12_sendPublish_368 : decode cX12_sendPublish 368 = .ok (.aload_n 0, 1) := by decide +kernel
theorem dX12_sendPublish_369 : decode cX12_sendPublish 369 = .ok (.getfield 180, 3) := by decide +kernel
theorem dX12_sendPublish_372 : decode cX12_sendPublish 372 = .ok (.iload_n 2, 1) := by decide +kernel
theorem dX12_sendPublish_373 : decode cX12_sendPublish 373 = .ok (.iaload, 1) := by decide +kernel
theorem dX12_sendPublish_374 : decode cX12_sendPublish 374 = .ok (.invokevirtual 555, 3) := by decide +kernel
theorem dX12_sendPublish_377 : decode cX12_sendPublish 377 = .ok (.aload_n 0, 1) := by decide +kernel
theorem dX12_sendPublish_378 : decode cX12_sendPublish 378 = .ok (.bipush 9, 2) := by decide +kernel
theorem dX12_sendPublish_380 : decode cX12_sendPublish 380 = .ok (.aload_n 0, 1) := by decide +kernel
theorem dX12_sendPublish_381 : decode cX12_sendPublish 381 = .ok (.getfield 183, 3) := by decide +kernel
theorem dX12_sendPublish_384 : decode cX12_sendPublish 384 = .ok (.iload_n 2, 1) := by decide +kernel
theorem dX12_sendPublish_385 : decode cX12_sendPublish 385 = .ok (.iaload, 1) := by decide +kernel
theorem dX12_sendPublish_386 : decode cX12_sendPublish 386 = .ok (.aload_n 0, 1) := by decide +kernel
theorem dX12_sendPublish_387 : decode cX12_sendPublish 387 = .ok (.getfield 186, 3) := by decide +kernel
theorem dX12_sendPublish_390 : decode cX12_sendPublish 390 = .ok (.iload_n 2, 1) := by decide +kernel
theorem dX12_sendPublish_391 : decode cX12_sendPublish 391 = .ok (.iaload, 1) := by decide +kernel
theorem dX12_sendPublish_392 : decode cX12_sendPublish 392 = .ok (.invokevirtual 555, 3) := by decide +kernel
theorem dX12_sendPublish_395 : decode cX12_sendPublish 395 = .ok (.iload 5, 2) := by decide +kernel
theorem dX12_sendPublish_397 : decode cX12_sendPublish 397 = .ok (.ifCond .eq 16, 3) := by decide +kernel
theorem dX12_sendPublish_400 : decode cX12_sendPublish 400 = .ok (.aload_n 0, 1) := by decide +kernel
theorem dX12_sendPublish_401 : decode cX12_sendPublish 401 = .ok (.bipush 11, 2) := by decide +kernel
theorem dX12_sendPublish_403 : decode cX12_sendPublish 403 = .ok (.invokevirtual 453, 3) := by decide +kernel
theorem dX12_sendPublish_406 : decode cX12_sendPublish 406 = .ok (.aload_n 0, 1) := by decide +kernel
theorem dX12_sendPublish_407 : decode cX12_sendPublish 407 = .ok (.iload 5, 2) := by decide +kernel
theorem dX12_sendPublish_409 : decode cX12_sendPublish 409 = .ok (.i2l, 1) := by decide +kernel
theorem dX12_sendPublish_410 : decode cX12_sendPublish 410 = .ok (.invokevirtual 548, 3) := by decide +kernel
theorem dX12_sendPublish_413 : decode cX12_sendPublish 413 = .ok (.iconst 0, 1) := by decide +kernel
theorem dX12_sendPublish_414 : decode cX12_sendPublish 414 = .ok (.istore 10, 2) := by decide +kernel
theorem dX12_sendPublish_416 : decode cX12_sendPublish 416 = .ok (.iload 10, 2) := by decide +kernel
theorem dX12_sendPublish_418 : decode cX12_sendPublish 418 = .ok (.iload 8, 2) := by decide +kernel
theorem dX12_sendPublish_420 : decode cX12_sendPublish 420 = .ok (.if_icmp .ge 27, 3) := by decide +kernel
theorem dX12_sendPublish_423 : decode cX12_sendPublish 423 = .ok (.aload_n 0, 1) := by decide +kernel
theorem dX12_sendPublish_424 : decode cX12_sendPublish 424 = .ok (.aload_n 0, 1) := by decide +kernel
theorem dX12_sendPublish_425 : decode cX12_sendPublish 425 = .ok (.getfield 150, 3) := by decide +kernel
theorem dX12_sendPublish_428 : decode cX12_sendPublish 428 = .ok (.aload_n 0, 1) := by decide +kernel
theorem dX12_sendPublish_429 : decode cX12_sendPublish 429 = .ok (.getfield 189, 3) := by decide +kernel
theorem dX12_sendPublish_432 : decode cX12_sendPublish 432 = .ok (.iload_n 2, 1) := by decide +kernel
theorem dX12_sendPublish_433 : decode cX12_sendPublish 433 = .ok (.iaload, 1) := by decide +kernel
theorem dX12_sendPublish_434 : decode cX12_sendPublish 434 = .ok (.iload 10, 2) := by decide +kernel
theorem dX12_sendPublish_436 : decode cX12_sendPublish 436 = .ok (.iadd, 1) := by decide +kernel
theorem dX12_sendPublish_437 : decode cX12_sendPublish 437 = .ok (.baload, 1) := by decide +kernel
theorem dX12_sendPublish_438 : decode cX12_sendPublish 438 = .ok (.invokevirtual 453, 3) := by decide +kernel
theorem dX12_sendPublish_441 : decode cX12_sendPublish 441 = .ok (.iinc 10 1, 3) := by decide +kernel
theorem dX12_sendPublish_444 : decode cX12_sendPublish 444 = .ok (.goto (-28), 3) := by decide +kernel
theorem dX12_sendPublish_447 : decode cX12_sendPublish 447 = .ok (.iconst 0, 1) := by decide +kernel
theorem dX12_sendPublish_448 : decode cX12_sendPublish 448 = .ok (.istore 10, 2) := by decide +kernel
theorem dX12_sendPublish_450 : decode cX12_sendPublish 450 = .ok (.iload 10, 2) := by decide +kernel
theorem dX12_sendPublish_452 : decode cX12_sendPublish 452 = .ok (.aload_n 0, 1) := by decide +kernel
theorem dX12_sendPublish_453 : decode cX12_sendPublish 453 = .ok (.getfield 159, 3) := by decide +kernel
theorem dX12_sendPublish_456 : decode cX12_sendPublish 456 = .ok (.iload_n 2, 1) := by decide +kernel
theorem dX12_sendPublish_457 : decode cX12_sendPublish 457 = .ok (.iaload, 1) := by decide +kernel
theorem dX12_sendPublish_458 : decode cX12_sendPublish 458 = .ok (.if_icmp .ge 27, 3) := by decide +kernel
theorem dX12_sendPublish_461 : decode cX12_sendPublish 461 = .ok (.aload_n 0, 1) := by decide +kernel
theorem dX12_sendPublish_462 : decode cX12_sendPublish 462 = .ok (.aload_n 0, 1) := by decide +kernel
theorem dX12_sendPublish_463 : decode cX12_sendPublish 463 = .ok (.getfield 150, 3) := by decide +kernel
theorem dX12_sendPublish_466 : decode cX12_sendPublish 466 = .ok (.aload_n 0, 1) := by decide +kernel
theorem dX12_sendPublish_467 : decode cX12_sendPublish 467 = .ok (.getfield 156, 3) := by decide +kernel
theorem dX12_sendPublish_470 : decode cX12_sendPublish 470 = .ok (.iload_n 2, 1) := by decide +kernel
theorem dX12_sendPublish_471 : decode cX12_sendPublish 471 = .ok (.iaload, 1) := by decide +kernel
theorem dX12_sendPublish_472 : decode cX12_sendPublish 472 = .ok (.iload 10, 2) := by decide +kernel
theorem dX12_sendPublish_474 : decode cX12_sendPublish 474 = .ok (.iadd, 1) := by decide +kernel
theorem dX12_sendPublish_475 : decode cX12_sendPublish 475 = .ok (.baload, 1) := by decide +kernel
theorem dX12_sendPublish_476 : decode cX12_sendPublish 476 = .ok (.invokevirtual 453, 3) := by decide +kernel
theorem dX12_sendPublish_479 : decode cX12_sendPublish 479 = .ok (.iinc 10 1, 3) := by decide +kernel
theorem dX12_sendPublish_482 : decode cX12_sendPublish 482 = .ok (.goto (-32), 3) := by decide +kernel
theorem dX12_sendPublish_485 : decode cX12_sendPublish 485 = .ok (.aload_n 0, 1) := by decide +kernel
theorem dX12_sendPublish_486 : decode cX12_sendPublish 486 = .ok (.bipush 48, 2) := by decide +kernel
theorem dX12_sendPublish_488 : decode cX12_sendPublish 488 = .ok (.bipush 8, 2) := by decide +kernel
theorem dX12_sendPublish_490 : decode cX12_sendPublish 490 = .ok (.iload 7, 2) := by decide +kernel
theorem dX12_sendPublish_492 : decode cX12_sendPublish 492 = .ok (.imul, 1) := by decide +kernel
theorem dX12_sendPublish_493 : decode cX12_sendPublish 493 = .ok (.ior, 1) := by decide +kernel
theorem dX12_sendPublish_494 : decode cX12_sendPublish 494 = .ok (.iconst 2, 1) := by decide +kernel
theorem dX12_sendPublish_495 : decode cX12_sendPublish 495 = .ok (.iload_n 3, 1) := by decide +kernel
theorem dX12_sendPublish_496 : decode cX12_sendPublish 496 = .ok (.imul, 1) := by decide +kernel
theorem dX12_sendPublish_497 : decode cX12_sendPublish 497 = .ok (.ior, 1) := by decide +kernel
theorem dX12_sendPublish_498 : decode cX12_sendPublish 498 = .ok (.iload 4, 2) := by decide +kernel
theorem dX12_sendPublish_500 : decode cX12_sendPublish 500 = .ok (.ior, 1) := by decide +kernel
theorem dX12_sendPublish_501 : decode cX12_sendPublish 501 = .ok (.invokevirtual 467, 3) := by decide +kernel
theorem dX12_sendPublish_504 : decode cX12_sendPublish 504 = .ok (.aload_n 0, 1) := by decide +kernel
theorem dX12_sendPublish_505 : decode cX12_sendPublish 505 = .ok (.getfield 306, 3) := by decide +kernel
theorem dX12_sendPublish_508 : decode cX12_sendPublish 508 = .ok (.i2l, 1) := by decide +kernel
theorem dX12_sendPublish_509 : decode cX12_sendPublish 509 = .ok (.aload_n 0, 1) := by decide +kernel
theorem dX12_sendPublish_510 : decode cX12_sendPublish 510 = .ok (.getfield 68, 3) := by decide +kernel
theorem dX12_sendPublish_513 : decode cX12_sendPublish 513 = .ok (.iload_n 1, 1) := by decide +kernel
theorem dX12_sendPublish_514 : decode cX12_sendPublish 514 = .ok (.laload, 1) := by decide +kernel
theorem dX12_sendPublish_515 : decode cX12_sendPublish 515 = .ok (.lcmp, 1) := by decide +kernel
theorem dX12_sendPublish_516 : decode cX12_sendPublish 516 = .ok (.ifCond .le 15, 3) := by decide +kernel
theorem dX12_sendPublish_519 : decode cX12_sendPublish 519 = .ok (.aload_n 0, 1) := by decide +kernel
theorem dX12_sendPublish_520 : decode cX12_sendPublish 520 = .ok (.dup, 1) := by decide +kernel
theorem dX12_sendPublish_521 : decode cX12_sendPublish 521 = .ok (.getfield 541, 3) := by decide +kernel
theorem dX12_sendPublish_524 : decode cX12_sendPublish 524 = .ok (.iconst 1, 1) := by decide +kernel
theorem dX12_sendPublish_525 : decode cX12_sendPublish 525 = .ok (.iadd, 1) := by decide +kernel
theorem dX12_sendPublish_526 : decode cX12_sendPublish 526 = .ok (.putfield 541, 3) := by decide +kernel
theorem dX12_sendPublish_529 : decode cX12_sendPublish 529 = .ok (.iconst 0, 1) := by decide +kernel
theorem dX12_sendPublish_530 : decode cX12_sendPublish 530 = .ok (.ireturn, 1) := by decide +kernel
theorem dX12_sendPublish_531 : decode cX12_sendPublish 531 = .ok (.aload_n 0, 1) := by decide +kernel
theorem dX12_sendPublish_532 : decode cX12_sendPublish 532 = .ok (.aload_n 0, 1) := by decide +kernel
theorem dX12_sendPublish_533 : decode cX12_sendPublish 533 = .ok (.getfield 58, 3) := by decide +kernel
theorem dX12_sendPublish_536 : decode cX12_sendPublish 536 = .ok (.iload_n 1, 1) := by decide +kernel
theorem dX12_sendPublish_537 : decode cX12_sendPublish 537 = .ok (.iaload, 1) := by decide +kernel
theorem dX12_sendPublish_538 : decode cX12_sendPublish 538 = .ok (.invokevirtual 312, 3) := by decide +kernel
theorem dX12_sendPublish_541 : decode cX12_sendPublish 541 = .ok (.iconst 1, 1) := by decide +kernel
theorem dX12_sendPublish_542 : decode cX12_sendPublish 542 = .ok (.ireturn, 1) := by decide +kernel
theorem dX12_part_0 : decode cX12_part 0 = .ok (.iload_n 3, 1) := by decide +kernel
theorem dX12_part_1 : decode cX12_part 1 = .ok (.ifCond .ge 4, 3) := by decide +kernel
theorem dX12_part_4 : decode cX12_part 4 = .ok (.return_, 1) := by decide +kernel
theorem dX12_part_5 : decode cX12_part 5 = .ok (.aload_n 0, 1) := by decide +kernel
theorem dX12_part_6 : decode cX12_part 6 = .ok (.iload_n 1, 1) := by decide +kernel
theorem dX12_part_7 : decode cX12_part 7 = .ok (.invokevirtual 453, 3) := by decide +kernel
theorem dX12_part_10 : decode cX12_part 10 = .ok (.aload_n 0, 1) := by decide +kernel
theorem dX12_part_11 : decode cX12_part 11 = .ok (.iload_n 3, 1) := by decide +kernel
theorem dX12_part_12 : decode cX12_part 12 = .ok (.bipush 8, 2) := by decide +kernel
theorem dX12_part_14 : decode cX12_part 14 = .ok (.ishr, 1) := by decide +kernel
theorem dX12_part_15 : decode cX12_part 15 = .ok (.invokevirtual 453, 3) := by decide +kernel
theorem dX12_part_18 : decode cX12_part 18 = .ok (.aload_n 0, 1) := by decide +kernel
theorem dX12_part_19 : decode cX12_part 19 = .ok (.iload_n 3, 1) := by decide +kernel
theorem dX12_part_20 : decode cX12_part 20 = .ok (.invokevirtual 453, 3) := by decide +kernel
theorem dX12_part_23 : decode cX12_part 23 = .ok (.iconst 0, 1) := by decide +kernel
theorem dX12_part_24 : decode cX12_part 24 = .ok (.istore 4, 2) := by decide +kernel
theorem dX12_part_26 : decode cX12_part 26 = .ok (.iload 4, 2) := by decide +kernel
theorem dX12_part_28 : decode cX12_part 28 = .ok (.iload_n 3, 1) := by decide +kernel
theorem dX12_part_29 : decode cX12_part 29 = .ok (.if_icmp .ge 22, 3) := by decide +kernel
theorem dX12_part_32 : decode cX12_part 32 = .ok (.aload_n 0, 1) := by decide +kernel
theorem dX12_part_33 : decode cX12_part 33 = .ok (.aload_n 0, 1) := by decide +kernel
theorem dX12_part_34 : decode cX12_part 34 = .ok (.getfield 150, 3) := by decide +kernel
theorem dX12_part_37 : decode cX12_part 37 = .ok (.iload_n 2, 1) := by decide +kernel
theorem dX12_part_38 : decode cX12_part 38 = .ok (.iload 4, 2) := by decide +kernel
theorem dX12_part_40 : decode cX12_part 40 = .ok (.iadd, 1) := by decide +kernel
theorem dX12_part_41 : decode cX12_part 41 = .ok (.baload, 1) := by decide +kernel
theorem dX12_part_42 : decode cX12_part 42 = .ok (.invokevirtual 453, 3) := by decide +kernel
theorem dX12_part_45 : decode cX12_part 45 = .ok (.iinc 4 1, 3) := by decide +kernel
theorem dX12_part_48 : decode cX12_part 48 = .ok (.goto (-22), 3) := by decide +kernel
theorem dX12_part_51 : decode cX12_part 51 = .ok (.return_, 1) := by decide +kernel
theorem dX12_again_0 : decode cX12_again 0 = .ok (.iconst 0, 1) := by decide +kernel
theorem dX12_again_1 : decode cX12_again 1 = .ok (.istore_n 2, 1) := by decide +kernel
theorem dX12_again_2 : decode cX12_again 2 = .ok (.aload_n 0, 1) := by decide +kernel
theorem dX12_again_3 : decode cX12_again 3 = .ok (.getfield 107, 3) := by decide +kernel
theorem dX12_again_6 : decode cX12_again 6 = .ok (.iload_n 1, 1) := by decide +kernel
theorem dX12_again_7 : decode cX12_again 7 = .ok (.iaload, 1) := by decide +kernel
theorem dX12_again_8 : decode cX12_again 8 = .ok (.istore_n 3, 1) := by decide +kernel
theorem dX12_again_9 : decode cX12_again 9 = .ok (.iconst 0, 1) := by decide +kernel
theorem dX12_again_10 : decode cX12_again 10 = .ok (.istore 4, 2) := by decide +kernel
theorem dX12_again_12 : decode cX12_again 12 = .ok (.iload 4, 2) := by decide +kernel
theorem dX12_again_14 : decode cX12_again 14 = .ok (.iload_n 3, 1) := by decide +kernel
theorem dX12_again_15 : decode cX12_again 15 = .ok (.if_icmp .ge 128, 3) := by decide +kernel
theorem dX12_again_18 : decode cX12_again 18 = .ok (.bipush 16, 2) := by decide +kernel
theorem dX12_again_20 : decode cX12_again 20 = .ok (.iload_n 1, 1) := by decide +kernel
theorem dX12_again_21 : decode cX12_again 21 = .ok (.imul, 1) := by decide +kernel
theorem dX12_again_22 : decode cX12_again 22 = .ok (.iload 4, 2) := by decide +kernel
theorem dX12_again_24 : decode cX12_again 24 = .ok (.iadd, 1) := by decide +kernel
theorem dX12_again_25 : decode cX12_again 25 = .ok (.istore 5, 2) := by decide +kernel
theorem dX12_again_27 : decode cX12_again 27 = .ok (.iconst 1, 1) := by decide +kernel
theorem dX12_again_28 : decode cX12_again 28 = .ok (.istore 6, 2) := by decide +kernel
theorem dX12_again_30 : decode cX12_again 30 = .ok (.aload_n 0, 1) := by decide +kernel
theorem dX12_again_31 : decode cX12_again 31 = .ok (.getfield 125, 3) := by decide +kernel
theorem dX12_again_34 : decode cX12_again 34 = .ok (.iload 5, 2) := by decide +kernel
theorem dX12_again_36 : decode cX12_again 36 = .ok (.baload, 1) := by decide +kernel
theorem dX12_again_37 : decode cX12_again 37 = .ok (.ifCond .eq 37, 3) := by decide +kernel
theorem dX12_again_40 : decode cX12_again 40 = .ok (.aload_n 0, 1) := by decide +kernel
theorem dX12_again_41 : decode cX12_again 41 = .ok (.aload_n 0, 1) := by decide +kernel
theorem dX12_again_42 : decode cX12_again 42 = .ok (.getfield 58, 3) := by decide +kernel
theorem dX12_again_45 : decode cX12_again 45 = .ok (.iload_n 1, 1) := by decide +kernel
theorem dX12_again_46 : decode cX12_again 46 = .ok (.iaload, 1) := by decide +kernel
theorem dX12_again_47 : decode cX12_again 47 = .ok (.bipush 98, 2) := by decide +kernel
theorem dX12_again_49 : decode cX12_again 49 = .ok (.iconst 2, 1) := by decide +kernel
theorem dX12_again_50 : decode cX12_again 50 = .ok (.aload_n 0, 1) := by decide +kernel
theorem dX12_again_51 : decode cX12_again 51 = .ok (.getfield 110, 3) := by decide +kernel
theorem dX12_again_54 : decode cX12_again 54 = .ok (.iload 5, 2) := by decide +kernel
theorem dX12_again_56 : decode cX12_again 56 = .ok (.iaload, 1) := by decide +kernel
theorem dX12_again_57 : decode cX12_again 57 = .ok (.bipush 8, 2) := by decide +kernel
theorem dX12_again_59 : decode cX12_again 59 = .ok (.ishr, 1) := by decide +kernel
theorem dX12_again_60 : decode cX12_again 60 = .ok (.aload_n 0, 1) := by decide +kernel
theorem dX12_again_61 : decode cX12_again 61 = .ok (.getfield 110, 3) := by decide +kernel
theorem dX12_again_64 : decode cX12_again 64 = .ok (.iload 5, 2) := by decide +kernel
theorem dX12_again_66 : decode cX12_again 66 = .ok (.iaload, 1) := by decide +kernel
theorem dX12_again_67 : decode cX12_again 67 = .ok (.iconst 4, 1) := by decide +kernel
theorem dX12_again_68 : decode cX12_again 68 = .ok (.invokevirtual 295, 3) := by decide +kernel
theorem dX12_again_71 : decode cX12_again 71 = .ok (.goto 46, 3) := by decide +kernel
theorem dX12_again_74 : decode cX12_again 74 = .ok (.aload_n 0, 1) := by decide +kernel
theorem dX12_again_75 : decode cX12_again 75 = .ok (.iload_n 1, 1) := by decide +kernel
theorem dX12_again_76 : decode cX12_again 76 = .ok (.aload_n 0, 1) := by decide +kernel
theorem dX12_again_77 : decode cX12_again 77 = .ok (.getfield 113, 3) := by decide +kernel
theorem dX12_again_80 : decode cX12_again 80 = .ok (.iload 5, 2) := by decide +kernel
theorem dX12_again_82 : decode cX12_again 82 = .ok (.iaload, 1) := by decide +kernel
theorem dX12_again_83 : decode cX12_again 83 = .ok (.aload_n 0, 1) := by decide +kernel
theorem dX12_again_84 : decode cX12_again 84 = .ok (.getfield 116, 3) := by decide +kernel
theorem dX12_again_87 : decode cX12_again 87 = .ok (.iload 5, 2) := by decide +kernel
theorem dX12_again_89 : decode cX12_again 89 = .ok (.iaload, 1) := by decide +kernel
theorem dX12_again_90 : decode cX12_again 90 = .ok (.aload_n 0, 1) := by decide +kernel
theorem dX12_again_91 : decode cX12_again 91 = .ok (.getfield 119, 3) := by decide +kernel
theorem dX12_again_94 : decode cX12_again 94 = .ok (.iload 5, 2) := by decide +kernel
theorem dX12_again_96 : decode cX12_again 96 = .ok (.iaload, 1) := by decide +kernel
theorem dX12_again_97 : decode cX12_again 97 = .ok (.aload_n 0, 1) := by decide +kernel
theorem dX12_again_98 : decode cX12_again 98 = .ok (.getfield 122, 3) := by decide +kernel
theorem dX12_again_101 : decode cX12_again 101 = .ok (.iload 5, 2) := by decide +kernel
theorem dX12_again_103 : decode cX12_again 103 = .ok (.iaload, 1) := by decide +kernel
theorem dX12_again_104 : decode cX12_again 104 = .ok (.aload_n 0, 1) := by decide +kernel
theorem dX12_again_105 : decode cX12_again 105 = .ok (.getfield 110, 3) := by decide +kernel
theorem dX12_again_108 : decode cX12_again 108 = .ok (.iload 5, 2) := by decide +kernel
theorem dX12_again_110 : decode cX12_again 110 = .ok (.iaload, 1) := by decide +kernel
theorem dX12_again_111 : decode cX12_again 111 = .ok (.iconst 1, 1) := by decide +kernel
theorem dX12_again_112 : decode cX12_again 112 = .ok (.invokevirtual 530, 3) := by decide +kernel
theorem dX12_again_115 : decode cX12_again 115 = .ok (.istore 6, 2) := by decide +kernel
theorem dX12_again_117 : decode cX12_again 117 = .ok (.iload 6, 2) := by decide +kernel
theorem dX12_again_119 : decode cX12_again 119 = .ok (.ifCond .eq 18, 3) := by decide +kernel
theorem dX12_again_122 : decode cX12_again 122 = .ok (.aload_n 0, 1) := by decide +kernel
theorem dX12_again_123 : decode cX12_again 123 = .ok (.iload 5, 2) := by decide +kernel
theorem dX12_again_125 : decode cX12_again 125 = .ok (.bipush 16, 2) := by decide +kernel
theorem dX12_again_127 : decode cX12_again 127 = .ok (.iload_n 1, 1) := by decide +kernel
theorem dX12_again_128 : decode cX12_again 128 = .ok (.imul, 1) := by decide +kernel
theorem dX12_again_129 : decode cX12_again 129 = .ok (.iload_n 2, 1) := by decide +kernel
theorem dX12_again_130 : decode cX12_again 130 = .ok (.iinc 2 1, 3) := by decide +kernel
theorem dX12_again_133 : decode cX12_again 133 = .ok (.iadd, 1) := by decide +kernel
theorem dX12_again_134 : decode cX12_again 134 = .ok (.invokevirtual 558, 3) := by decide +kernel
theorem dX12_again_137 : decode cX12_again 137 = .ok (.iinc 4 1, 3) := by decide +kernel
theorem dX12_again_140 : decode cX12_again 140 = .ok (.goto (-128), 3) := by decide +kernel
theorem dX12_again_143 : decode cX12_again 143 = .ok (.aload_n 0, 1) := by decide +kernel
theorem dX12_again_144 : decode cX12_again 144 = .ok (.getfield 107, 3) := by decide +kernel
theorem dX12_again_147 : decode cX12_again 147 = .ok (.iload_n 1, 1) := by decide +kernel
theorem dX12_again_148 : decode cX12_again 148 = .ok (.iload_n 2, 1) := by decide +kernel
theorem dX12_again_149 : decode cX12_again 149 = .ok (.iastore, 1) := by decide +kernel
theorem dX12_again_150 : decode cX12_again 150 = .ok (.return_, 1) := by decide +kernel
theorem dX12_moveWay_0 : decode cX12_moveWay 0 = .ok (.aload_n 0, 1) := by decide +kernel
theorem dX12_moveWay_1 : decode cX12_moveWay 1 = .ok (.getfield 110, 3) := by decide +kernel
theorem dX12_moveWay_4 : decode cX12_moveWay 4 = .ok (.iload_n 2, 1) := by decide +kernel
theorem dX12_moveWay_5 : decode cX12_moveWay 5 = .ok (.aload_n 0, 1) := by decide +kernel
theorem dX12_moveWay_6 : decode cX12_moveWay 6 = .ok (.getfield 110, 3) := by decide +kernel
theorem dX12_moveWay_9 : decode cX12_moveWay 9 = .ok (.iload_n 1, 1) := by decide +kernel
theorem dX12_moveWay_10 : decode cX12_moveWay 10 = .ok (.iaload, 1) := by decide +kernel
theorem dX12_moveWay_11 : decode cX12_moveWay 11 = .ok (.iastore, 1) := by decide +kernel
theorem dX12_moveWay_12 : decode cX12_moveWay 12 = .ok (.aload_n 0, 1) := by decide +kernel
theorem dX12_moveWay_13 : decode cX12_moveWay 13 = .ok (.getfield 113, 3) := by decide +kernel
theorem dX12_moveWay_16 : decode cX12_moveWay 16 = .ok (.iload_n 2, 1) := by decide +kernel
theorem dX12_moveWay_17 : decode cX12_moveWay 17 = .ok (.aload_n 0, 1) := by decide +kernel
theorem dX12_moveWay_18 : decode cX12_moveWay 18 = .ok (.getfield 113, 3) := by decide +kernel
theorem dX12_moveWay_21 : decode cX12_moveWay 21 = .ok (.iload_n 1, 1) := by decide +kernel
theorem dX12_moveWay_22 : decode cX12_moveWay 22 = .ok (.iaload, 1) := by decide +kernel
theorem dX12_moveWay_23 : decode cX12_moveWay 23 = .ok (.iastore, 1) := by decide +kernel
theorem dX12_moveWay_24 : decode cX12_moveWay 24 = .ok (.aload_n 0, 1) := by decide +kernel
theorem dX12_moveWay_25 : decode cX12_moveWay 25 = .ok (.getfield 116, 3) := by decide +kernel
theorem dX12_moveWay_28 : decode cX12_moveWay 28 = .ok (.iload_n 2, 1) := by decide +kernel
theorem dX12_moveWay_29 : decode cX12_moveWay 29 = .ok (.aload_n 0, 1) := by decide +kernel
theorem dX12_moveWay_30 : decode cX12_moveWay 30 = .ok (.getfield 116, 3) := by decide +kernel
theorem dX12_moveWay_33 : decode cX12_moveWay 33 = .ok (.iload_n 1, 1) := by decide +kernel
theorem dX12_moveWay_34 : decode cX12_moveWay 34 = .ok (.iaload, 1) := by decide +kernel
theorem dX12_moveWay_35 : decode cX12_moveWay 35 = .ok (.iastore, 1) := by decide +kernel
theorem dX12_moveWay_36 : decode cX12_moveWay 36 = .ok (.aload_n 0, 1) := by decide +kernel
theorem dX12_moveWay_37 : decode cX12_moveWay 37 = .ok (.getfield 119, 3) := by decide +kernel
theorem dX12_moveWay_40 : decode cX12_moveWay 40 = .ok (.iload_n 2, 1) := by decide +kernel
theorem dX12_moveWay_41 : decode cX12_moveWay 41 = .ok (.aload_n 0, 1) := by decide +kernel
theorem dX12_moveWay_42 : decode cX12_moveWay 42 = .ok (.getfield 119, 3) := by decide +kernel
theorem dX12_moveWay_45 : decode cX12_moveWay 45 = .ok (.iload_n 1, 1) := by decide +kernel
theorem dX12_moveWay_46 : decode cX12_moveWay 46 = .ok (.iaload, 1) := by decide +kernel
theorem dX12_moveWay_47 : decode cX12_moveWay 47 = .ok (.iastore, 1) := by decide +kernel
theorem dX12_moveWay_48 : decode cX12_moveWay 48 = .ok (.aload_n 0, 1) := by decide +kernel
theorem dX12_moveWay_49 : decode cX12_moveWay 49 = .ok (.getfield 122, 3) := by decide +kernel
theorem dX12_moveWay_52 : decode cX12_moveWay 52 = .ok (.iload_n 2, 1) := by decide +kernel
theorem dX12_moveWay_53 : decode cX12_moveWay 53 = .ok (.aload_n 0, 1) := by decide +kernel
theorem dX12_moveWay_54 : decode cX12_moveWay 54 = .ok (.getfield 122, 3) := by decide +kernel
theorem dX12_moveWay_57 : decode cX12_moveWay 57 = .ok (.iload_n 1, 1) := by decide +kernel
theorem dX12_moveWay_58 : decode cX12_moveWay 58 = .ok (.iaload, 1) := by decide +kernel
theorem dX12_moveWay_59 : decode cX12_moveWay 59 = .ok (.iastore, 1) := by decide +kernel
theorem dX12_moveWay_60 : decode cX12_moveWay 60 = .ok (.aload_n 0, 1) := by decide +kernel
theorem dX12_moveWay_61 : decode cX12_moveWay 61 = .ok (.getfield 125, 3) := by decide +kernel
theorem dX12_moveWay_64 : decode cX12_moveWay 64 = .ok (.iload_n 2, 1) := by decide +kernel
theorem dX12_moveWay_65 : decode cX12_moveWay 65 = .ok (.aload_n 0, 1) := by decide +kernel
theorem dX12_moveWay_66 : decode cX12_moveWay 66 = .ok (.getfield 125, 3) := by decide +kernel
theorem dX12_moveWay_69 : decode cX12_moveWay 69 = .ok (.iload_n 1, 1) := by decide +kernel
theorem dX12_moveWay_70 : decode cX12_moveWay 70 = .ok (.baload, 1) := by decide +kernel
theorem dX12_moveWay_71 : decode cX12_moveWay 71 = .ok (.bastore, 1) := by decide +kernel
theorem dX12_moveWay_72 : decode cX12_moveWay 72 = .ok (.return_, 1) := by decide +kernel
theorem dX12_leave_0 : decode cX12_leave 0 = .ok (.iload_n 2, 1) := by decide +kernel
theorem dX12_leave_1 : decode cX12_leave 1 = .ok (.istore_n 3, 1) := by decide +kernel
theorem dX12_leave_2 : decode cX12_leave 2 = .ok (.iload_n 3, 1) := by decide +kernel
theorem dX12_leave_3 : decode cX12_leave 3 = .ok (.iconst 1, 1) := by decide +kernel
theorem dX12_leave_4 : decode cX12_leave 4 = .ok (.iadd, 1) := by decide +kernel
theorem dX12_leave_5 : decode cX12_leave 5 = .ok (.aload_n 0, 1) := by decide +kernel
theorem dX12_leave_6 : decode cX12_leave 6 = .ok (.getfield 107, 3) := by decide +kernel
theorem dX12_leave_9 : decode cX12_leave 9 = .ok (.iload_n 1, 1) := by decide +kernel
theorem dX12_leave_10 : decode cX12_leave 10 = .ok (.iaload, 1) := by decide +kernel
theorem dX12_leave_11 : decode cX12_leave 11 = .ok (.if_icmp .ge 27, 3) := by decide +kernel
theorem dX12_leave_14 : decode cX12_leave 14 = .ok (.aload_n 0, 1) := by decide +kernel
theorem dX12_leave_15 : decode cX12_leave 15 = .ok (.bipush 16, 2) := by decide +kernel
theorem dX12_leave_17 : decode cX12_leave 17 = .ok (.iload_n 1, 1) := by decide +kernel
theorem dX12_leave_18 : decode cX12_leave 18 = .ok (.imul, 1) := by decide +kernel
theorem dX12_leave_19 : decode cX12_leave 19 = .ok (.iload_n 3, 1) := by decide +kernel
theorem dX12_leave_20 : decode cX12_leave 20 = .ok (.iadd, 1) := by decide +kernel
theorem dX12_leave_21 : decode cX12_leave 21 = .ok (.iconst 1, 1) := by decide +kernel
theorem dX12_leave_22 : decode cX12_leave 22 = .ok (.iadd, 1) := by decide +kernel
theorem dX12_leave_23 : decode cX12_leave 23 = .ok (.bipush 16, 2) := by decide +kernel
theorem dX12_leave_25 : decode cX12_leave 25 = .ok (.iload_n 1, 1) := by decide +kernel
theorem dX12_leave_26 : decode cX12_leave 26 = .ok (.imul, 1) := by decide +kernel
theorem dX12_leave_27 : decode cX12_leave 27 = .ok (.iload_n 3, 1) := by decide +kernel
theorem dX12_leave_28 : decode cX12_leave 28 = .ok (.iadd, 1) := by decide +kernel
theorem dX12_leave_29 : decode cX12_leave 29 = .ok (.invokevirtual 558, 3) := by decide +kernel
theorem dX12_leave_32 : decode cX12_leave 32 = .ok (.iinc 3 1, 3) := by decide +kernel
theorem dX12_leave_35 : decode cX12_leave 35 = .ok (.goto (-33), 3) := by decide +kernel
theorem dX12_leave_38 : decode cX12_leave 38 = .ok (.aload_n 0, 1) := by decide +kernel
theorem dX12_leave_39 : decode cX12_leave 39 = .ok (.getfield 107, 3) := by decide +kernel
theorem dX12_leave_42 : decode cX12_leave 42 = .ok (.iload_n 1, 1) := by decide +kernel
theorem dX12_leave_43 : decode cX12_leave 43 = .ok (.dup2, 1) := by decide +kernel
theorem dX12_leave_44 : decode cX12_leave 44 = .ok (.iaload, 1) := by decide +kernel
theorem dX12_leave_45 : decode cX12_leave 45 = .ok (.iconst 1, 1) := by decide +kernel
theorem dX12_leave_46 : decode cX12_leave 46 = .ok (.isub, 1) := by decide +kernel
theorem dX12_leave_47 : decode cX12_leave 47 = .ok (.iastore, 1) := by decide +kernel
theorem dX12_leave_48 : decode cX12_leave 48 = .ok (.aload_n 0, 1) := by decide +kernel
theorem dX12_leave_49 : decode cX12_leave 49 = .ok (.iload_n 1, 1) := by decide +kernel
theorem dX12_leave_50 : decode cX12_leave 50 = .ok (.invokevirtual 462, 3) := by decide +kernel
theorem dX12_leave_53 : decode cX12_leave 53 = .ok (.return_, 1) := by decide +kernel
theorem dX12_answered_0 : decode cX12_answered 0 = .ok (.aload_n 0, 1) := by decide +kernel
theorem dX12_answered_1 : decode cX12_answered 1 = .ok (.getfield 34, 3) := by decide +kernel
theorem dX12_answered_4 : decode cX12_answered 4 = .ok (.aload_n 0, 1) := by decide +kernel
theorem dX12_answered_5 : decode cX12_answered 5 = .ok (.getfield 271, 3) := by decide +kernel
theorem dX12_answered_8 : decode cX12_answered 8 = .ok (.iaload, 1) := by decide +kernel
theorem dX12_answered_9 : decode cX12_answered 9 = .ok (.istore_n 2, 1) := by decide +kernel
theorem dX12_answered_10 : decode cX12_answered 10 = .ok (.aload_n 0, 1) := by decide +kernel
theorem dX12_answered_11 : decode cX12_answered 11 = .ok (.invokevirtual 350, 3) := by decide +kernel
theorem dX12_answered_14 : decode cX12_answered 14 = .ok (.istore_n 3, 1) := by decide +kernel
theorem dX12_answered_15 : decode cX12_answered 15 = .ok (.aload_n 0, 1) := by decide +kernel
theorem dX12_answered_16 : decode cX12_answered 16 = .ok (.getfield 283, 3) := by decide +kernel
theorem dX12_answered_19 : decode cX12_answered 19 = .ok (.ifCond .ne 14, 3) := by decide +kernel
theorem dX12_answered_22 : decode cX12_answered 22 = .ok (.iload_n 3, 1) := by decide +kernel
theorem dX12_answered_23 : decode cX12_answered 23 = .ok (.ifCond .ne 10, 3) := by decide +kernel
theorem dX12_answered_26 : decode cX12_answered 26 = .ok (.aload_n 0, 1) := by decide +kernel
theorem dX12_answered_27 : decode cX12_answered 27 = .ok (.sipush 130, 3) := by decide +kernel
theorem dX12_answered_30 : decode cX12_answered 30 = .ok (.invokevirtual 343, 3) := by decide +kernel
theorem dX12_answered_33 : decode cX12_answered 33 = .ok (.aload_n 0, 1) := by decide +kernel
theorem dX12_answered_34 : decode cX12_answered 34 = .ok (.getfield 283, 3) := by decide +kernel
theorem dX12_answered_37 : decode cX12_answered 37 = .ok (.ifCond .ne 21, 3) := by decide +kernel
theorem dX12_answered_40 : decode cX12_answered 40 = .ok (.aload_n 0, 1) := by decide +kernel
theorem dX12_answered_41 : decode cX12_answered 41 = .ok (.getfield 274, 3) := by decide +kernel
theorem dX12_answered_44 : decode cX12_answered 44 = .ok (.aload_n 0, 1) := by decide +kernel
theorem dX12_answered_45 : decode cX12_answered 45 = .ok (.getfield 277, 3) := by decide +kernel
theorem dX12_answered_48 : decode cX12_answered 48 = .ok (.if_icmp .ge 10, 3) := by decide +kernel
theorem dX12_answered_51 : decode cX12_answered 51 = .ok (.aload_n 0, 1) := by decide +kernel
theorem dX12_answered_52 : decode cX12_answered 52 = .ok (.invokevirtual 346, 3) := by decide +kernel
theorem dX12_answered_55 : decode cX12_answered 55 = .ok (.goto 4, 3) := by decide +kernel
theorem dX12_answered_58 : decode cX12_answered 58 = .ok (.iconst 0, 1) := by decide +kernel
theorem dX12_answered_59 : decode cX12_answered 59 = .ok (.istore 4, 2) := by decide +kernel
theorem dX12_answered_61 : decode cX12_answered 61 = .ok (.aload_n 0, 1) := by decide +kernel
theorem dX12_answered_62 : decode cX12_answered 62 = .ok (.getfield 283, 3) := by decide +kernel
theorem dX12_answered_65 : decode cX12_answered 65 = .ok (.ifCond .ne 29, 3) := by decide +kernel
theorem dX12_answered_68 : decode cX12_answered 68 = .ok (.aload_n 0, 1) := by decide +kernel
theorem dX12_answered_69 : decode cX12_answered 69 = .ok (.getfield 274, 3) := by decide +kernel
theorem dX12_answered_72 : decode cX12_answered 72 = .ok (.aload_n 0, 1) := by decide +kernel
theorem dX12_answered_73 : decode cX12_answered 73 = .ok (.getfield 277, 3) := by decide +kernel
theorem dX12_answered_76 : decode cX12_answered 76 = .ok (.if_icmp .ge 18, 3) := by decide +kernel
theorem dX12_answered_79 : decode cX12_answered 79 = .ok (.aload_n 0, 1) := by decide +kernel
theorem dX12_answered_80 : decode cX12_answered 80 = .ok (.bipush 31, 2) := by decide +kernel
theorem dX12_answered_82 : decode cX12_answered 82 = .ok (.invokestatic 381, 3) := by decide +kernel
theorem dX12_answered_85 : decode cX12_answered 85 = .ok (.bipush 38, 2) := by decide +kernel
theorem dX12_answered_87 : decode cX12_answered 87 = .ok (.invokestatic 381, 3) := by decide +kernel
theorem dX12_answered_90 : decode cX12_answered 90 = .ok (.lor, 1) := by decide +kernel
theorem dX12_answered_91 : decode cX12_answered 91 = .ok (.invokevirtual 419, 3) := by decide +kernel
theorem dX12_answered_94 : decode cX12_answered 94 = .ok (.aload_n 0, 1) := by decide +kernel
theorem dX12_answered_95 : decode cX12_answered 95 = .ok (.getfield 283, 3) := by decide +kernel
theorem dX12_answered_98 : decode cX12_answered 98 = .ok (.ifCond .ne 21, 3) := by decide +kernel
theorem dX12_answered_101 : decode cX12_answered 101 = .ok (.aload_n 0, 1) := by decide +kernel
theorem dX12_answered_102 : decode cX12_answered 102 = .ok (.getfield 274, 3) := by decide +kernel
theorem dX12_answered_105 : decode cX12_answered 105 = .ok (.aload_n 0, 1) := by decide +kernel
theorem dX12_answered_106 : decode cX12_answered 106 = .ok (.getfield 277, 3) := by decide +kernel
theorem dX12_answered_109 : decode cX12_answered 109 = .ok (.if_icmp .ge 10, 3) := by decide +kernel
theorem dX12_answered_112 : decode cX12_answered 112 = .ok (.aload_n 0, 1) := by decide +kernel
theorem dX12_answered_113 : decode cX12_answered 113 = .ok (.sipush 129, 3) := by decide +kernel
theorem dX12_answered_116 : decode cX12_answered 116 = .ok (.invokevirtual 343, 3) := by decide +kernel
theorem dX12_answered_119 : decode cX12_answered 119 = .ok (.aload_n 0, 1) := by decide +kernel
theorem dX12_answered_120 : decode cX12_answered 120 = .ok (.getfield 283, 3) := by decide +kernel
theorem dX12_answered_123 : decode cX12_answered 123 = .ok (.ifCond .eq 4, 3) := by decide +kernel
theorem dX12_answered_126 : decode cX12_answered 126 = .ok (.return_, 1) := by decide +kernel
theorem dX12_answered_127 : decode cX12_answered 127 = .ok (.aload_n 0, 1) := by decide +kernel
theorem dX12_answered_128 : decode cX12_answered 128 = .ok (.iload_n 2, 1) := by decide +kernel
theorem dX12_answered_129 : decode cX12_answered 129 = .ok (.iload_n 3, 1) := by decide +kernel
theorem dX12_answered_130 : decode cX12_answered 130 = .ok (.invokevirtual 544, 3) := by decide +kernel
theorem dX12_answered_133 : decode cX12_answered 133 = .ok (.istore 5, 2) := by decide +kernel
theorem dX12_answered_135 : decode cX12_answered 135 = .ok (.bipush 16, 2) := by decide +kernel
theorem dX12_answered_137 : decode cX12_answered 137 = .ok (.iload_n 2, 1) := by decide +kernel
theorem dX12_answered_138 : decode cX12_answered 138 = .ok (.imul, 1) := by decide +kernel
theorem dX12_answered_139 : decode cX12_answered 139 = .ok (.iload 5, 2) := by decide +kernel
theorem dX12_answered_141 : decode cX12_answered 141 = .ok (.iadd, 1) := by decide +kernel
theorem dX12_answered_142 : decode cX12_answered 142 = .ok (.istore 6, 2) := by decide +kernel
theorem dX12_answered_144 : decode cX12_answered 144 = .ok (.iload_n 1, 1) := by decide +kernel
theorem dX12_answered_145 : decode cX12_answered 145 = .ok (.iconst 4, 1) := by decide +kernel
theorem dX12_answered_146 : decode cX12_answered 146 = .ok (.if_icmp .ne 29, 3) := by decide +kernel
theorem dX12_answered_149 : decode cX12_answered 149 = .ok (.iload 5, 2) := by decide +kernel
theorem dX12_answered_151 : decode cX12_answered 151 = .ok (.ifCond .lt 232, 3) := by decide +kernel
theorem dX12_answered_154 : decode cX12_answered 154 = .ok (.aload_n 0, 1) := by decide +kernel
theorem dX12_answered_155 : decode cX12_answered 155 = .ok (.getfield 116, 3) := by decide +kernel
theorem dX12_answered_158 : decode cX12_answered 158 = .ok (.iload 6, 2) := by decide +kernel
theorem dX12_answered_160 : decode cX12_answered 160 = .ok (.iaload, 1) := by decide +kernel
theorem dX12_answered_161 : decode cX12_answered 161 = .ok (.iconst 1, 1) := by decide +kernel
theorem dX12_answered_162 : decode cX12_answered 162 = .ok (.if_icmp .ne 221, 3) := by decide +kernel
theorem dX12_answered_165 : decode cX12_answered 165 = .ok (.aload_n 0, 1) := by decide +kernel
theorem dX12_answered_166 : decode cX12_answered 166 = .ok (.iload_n 2, 1) := by decide +kernel
theorem dX12_answered_167 : decode cX12_answered 167 = .ok (.iload 5, 2) := by decide +kernel
theorem dX12_answered_169 : decode cX12_answered 169 = .ok (.invokevirtual 561, 3) := by decide +kernel
theorem dX12_answered_172 : decode cX12_answered 172 = .ok (.goto 211, 3) := by decide +kernel
theorem dX12_answered_175 : decode cX12_answered 175 = .ok (.iload_n 1, 1) := by decide +kernel
theorem dX12_answered_176 : decode cX12_answered 176 = .ok (.iconst 5, 1) := by decide +kernel
theorem dX12_answered_177 : decode cX12_answered 177 = .ok (.if_icmp .ne 84, 3) := by decide +kernel
theorem dX12_answered_180 : decode cX12_answered 180 = .ok (.iload 5, 2) := by decide +kernel
theorem dX12_answered_182 : decode cX12_answered 182 = .ok (.ifCond .lt 18, 3) := by decide +kernel
theorem dX12_answered_185 : decode cX12_answered 185 = .ok (.aload_n 0, 1) := by decide +kernel
theorem dX12_answered_186 : decode cX12_answered 186 = .ok (.getfield 116, 3) := by decide +kernel
theorem dX12_answered_189 : decode cX12_answered 189 = .ok (.iload 6, 2) := by decide +kernel
theorem dX12_answered_191 : decode cX12_answered 191 = .ok (.iaload, 1) := by decide +kernel
theorem dX12_answered_192 : decode cX12_answered 192 = .ok (.iconst 2, 1) := by decide +kernel
theorem dX12_answered_193 : decode cX12_answered 193 = .ok (.if_icmp .ne 7, 3) := by decide +kernel
theorem dX12_answered_196 : decode cX12_answered 196 = .ok (.iconst 1, 1) := by decide +kernel
theorem dX12_answered_197 : decode cX12_answered 197 = .ok (.goto 4, 3) := by decide +kernel
theorem dX12_answered_200 : decode cX12_answered 200 = .ok (.iconst 0, 1) := by decide +kernel
theorem dX12_answered_201 : decode cX12_answered 201 = .ok (.istore 7, 2) := by decide +kernel
theorem dX12_answered_203 : decode cX12_answered 203 = .ok (.iload 7, 2) := by decide +kernel
theorem dX12_answered_205 : decode cX12_answered 205 = .ok (.ifCond .eq 21, 3) := by decide +kernel
theorem dX12_answered_208 : decode cX12_answered 208 = .ok (.iload 4, 2) := by decide +kernel
theorem dX12_answered_210 : decode cX12_answered 210 = .ok (.sipush 128, 3) := by decide +kernel
theorem dX12_answered_213 : decode cX12_answered 213 = .ok (.if_icmp .lt 13, 3) := by decide +kernel
theorem dX12_answered_216 : decode cX12_answered 216 = .ok (.aload_n 0, 1) := by decide +kernel
theorem dX12_answered_217 : decode cX12_answered 217 = .ok (.iload_n 2, 1) := by decide +kernel
theorem dX12_answered_218 : decode cX12_answered 218 = .ok (.iload 5, 2) := by decide +kernel
theorem dX12_answered_220 : decode cX12_answered 220 = .ok (.invokevirtual 561, 3) := by decide +kernel
theorem dX12_answered_223 : decode cX12_answered 223 = .ok (.goto 35, 3) := by decide +kernel
theorem dX12_answered_226 : decode cX12_answered 226 = .ok (.iload 7, 2) := by decide +kernel
theorem dX12_answered_228 : decode cX12_answered 228 = .ok (.ifCond .eq 11, 3) := by decide +kernel
theorem dX12_answered_231 : decode cX12_answered 231 = .ok (.aload_n 0, 1) := by decide +kernel
theorem dX12_answered_232 : decode cX12_answered 232 = .ok (.getfield 125, 3) := by decide +kernel
theorem dX12_answered_235 : decode cX12_answered 235 = .ok (.iload 6, 2) := by decide +kernel
theorem dX12_answered_237 : decode cX12_answered 237 = .ok (.iconst 1, 1) := by decide +kernel
theorem dX12_answered_238 : decode cX12_answered 238 = .ok (.bastore, 1) := by decide +kernel
theorem dX12_answered_239 : decode cX12_answered 239 = .ok (.aload_n 0, 1) := by decide +kernel
theorem dX12_answered_240 : decode cX12_answered 240 = .ok (.bipush 98, 2) := by decide +kernel
theorem dX12_answered_242 : decode cX12_answered 242 = .ok (.iload_n 3, 1) := by decide +kernel
theorem dX12_answered_243 : decode cX12_answered 243 = .ok (.iload 7, 2) := by decide +kernel
theorem dX12_answered_245 : decode cX12_answered 245 = .ok (.ifCond .eq 7, 3) := by decide +kernel
theorem dX12_answered_248 : decode cX12_answered 248 = .ok (.iconst 0, 1) := by decide +kernel
theorem dX12_answered_249 : decode cX12_answered 249 = .ok (.goto 6, 3) := by decide +kernel
theorem dX12_answered_252 : decode cX12_answered 252 = .ok (.sipush 146, 3) := by decide +kernel
theorem dX12_answered_255 : decode cX12_answered 255 = .ok (.invokevirtual 497, 3) := by decide +kernel
theorem dX12_answered_258 : decode cX12_answered 258 = .ok (.goto 125, 3) := by decide +kernel
theorem dX12_answered_261 : decode cX12_answered 261 = .ok (.iload_n 1, 1) := by decide +kernel
theorem dX12_answered_262 : decode cX12_answered 262 = .ok (.bipush 7, 2) := by decide +kernel
theorem dX12_answered_264 : decode cX12_answered 264 = .ok (.if_icmp .ne 28, 3) := by decide +kernel
theorem dX12_answered_267 : decode cX12_answered 267 = .ok (.iload 5, 2) := by decide +kernel
theorem dX12_answered_269 : decode cX12_answered 269 = .ok (.ifCond .lt 114, 3) := by decide +kernel
theorem dX12_answered_272 : decode cX12_answered 272 = .ok (.aload_n 0, 1) := by decide +kernel
theorem dX12_answered_273 : decode cX12_answered 273 = .ok (.getfield 125, 3) := by decide +kernel
theorem dX12_answered_276 : decode cX12_answered 276 = .ok (.iload 6, 2) := by decide +kernel
theorem dX12_answered_278 : decode cX12_answered 278 = .ok (.baload, 1) := by decide +kernel
theorem dX12_answered_279 : decode cX12_answered 279 = .ok (.ifCond .eq 104, 3) := by decide +kernel
theorem dX12_answered_282 : decode cX12_answered 282 = .ok (.aload_n 0, 1) := by decide +kernel
theorem dX12_answered_283 : decode cX12_answered 283 = .ok (.iload_n 2, 1) := by decide +kernel
theorem dX12_answered_284 : decode cX12_answered 284 = .ok (.iload 5, 2) := by decide +kernel
theorem dX12_answered_286 : decode cX12_answered 286 = .ok (.invokevirtual 561, 3) := by decide +kernel
theorem dX12_answered_289 : decode cX12_answered 289 = .ok (.goto 94, 3) := by decide +kernel
theorem dX12_answered_292 : decode cX12_answered 292 = .ok (.aload_n 0, 1) := by decide +kernel
theorem dX12_answered_293 : decode cX12_answered 293 = .ok (.iload_n 2, 1) := by decide +kernel
theorem dX12_answered_294 : decode cX12_answered 294 = .ok (.iload_n 3, 1) := by decide +kernel
theorem dX12_answered_295 : decode cX12_answered 295 = .ok (.invokevirtual 494, 3) := by decide +kernel
theorem dX12_answered_298 : decode cX12_answered 298 = .ok (.istore 7, 2) := by decide +kernel
theorem dX12_answered_300 : decode cX12_answered 300 = .ok (.iload 7, 2) := by decide +kernel
theorem dX12_answered_302 : decode cX12_answered 302 = .ok (.ifCond .lt 62, 3) := by decide +kernel
theorem dX12_answered_305 : decode cX12_answered 305 = .ok (.iload 7, 2) := by decide +kernel
theorem dX12_answered_307 : decode cX12_answered 307 = .ok (.istore 8, 2) := by decide +kernel
theorem dX12_answered_309 : decode cX12_answered 309 = .ok (.iload 8, 2) := by decide +kernel
theorem dX12_answered_311 : decode cX12_answered 311 = .ok (.iconst 1, 1) := by decide +kernel
theorem dX12_answered_312 : decode cX12_answered 312 = .ok (.iadd, 1) := by decide +kernel
theorem dX12_answered_313 : decode cX12_answered 313 = .ok (.aload_n 0, 1) := by decide +kernel
theorem dX12_answered_314 : decode cX12_answered 314 = .ok (.getfield 143, 3) := by decide +kernel
theorem dX12_answered_317 : decode cX12_answered 317 = .ok (.iload_n 2, 1) := by decide +kernel
theorem dX12_answered_318 : decode cX12_answered 318 = .ok (.iaload, 1) := by decide +kernel
theorem dX12_answered_319 : decode cX12_answered 319 = .ok (.if_icmp .ge 35, 3) := by decide +kernel
theorem dX12_answered_322 : decode cX12_answered 322 = .ok (.aload_n 0, 1) := by decide +kernel
theorem dX12_answered_323 : decode cX12_answered 323 = .ok (.getfield 146, 3) := by decide +kernel
theorem dX12_answered_326 : decode cX12_answered 326 = .ok (.bipush 8, 2) := by decide +kernel
theorem dX12_answered_328 : decode cX12_answered 328 = .ok (.iload_n 2, 1) := by decide +kernel
theorem dX12_answered_329 : decode cX12_answered 329 = .ok (.imul, 1) := by decide +kernel
theorem dX12_answered_330 : decode cX12_answered 330 = .ok (.iload 8, 2) := by decide +kernel
theorem dX12_answered_332 : decode cX12_answered 332 = .ok (.iadd, 1) := by decide +kernel
theorem dX12_answered_333 : decode cX12_answered 333 = .ok (.aload_n 0, 1) := by decide +kernel
theorem dX12_answered_334 : decode cX12_answered 334 = .ok (.getfield 146, 3) := by decide +kernel
theorem dX12_answered_337 : decode cX12_answered 337 = .ok (.bipush 8, 2) := by decide +kernel
theorem dX12_answered_339 : decode cX12_answered 339 = .ok (.iload_n 2, 1) := by decide +kernel
theorem dX12_answered_340 : decode cX12_answered 340 = .ok (.imul, 1) := by decide +kernel
theorem dX12_answered_341 : decode cX12_answered 341 = .ok (.iload 8, 2) := by decide +kernel
theorem dX12_answered_343 : decode cX12_answered 343 = .ok (.iadd, 1) := by decide +kernel
theorem dX12_answered_344 : decode cX12_answered 344 = .ok (.iconst 1, 1) := by decide +kernel
theorem dX12_answered_345 : decode cX12_answered 345 = .ok (.iadd, 1) := by decide +kernel
theorem dX12_answered_346 : decode cX12_answered 346 = .ok (.iaload, 1) := by decide +kernel
theorem dX12_answered_347 : decode cX12_answered 347 = .ok (.iastore, 1) := by decide +kernel
theorem dX12_answered_348 : decode cX12_answered 348 = .ok (.iinc 8 1, 3) := by decide +kernel
theorem dX12_answered_351 : decode cX12_answered 351 = .ok (.goto (-42), 3) := by decide +kernel
theorem dX12_answered_354 : decode cX12_answered 354 = .ok (.aload_n 0, 1) := by decide +kernel
theorem dX12_answered_355 : decode cX12_answered 355 = .ok (.getfield 143, 3) := by decide +kernel
theorem dX12_answered_358 : decode cX12_answered 358 = .ok (.iload_n 2, 1) := by decide +kernel
theorem dX12_answered_359 : decode cX12_answered 359 = .ok (.dup2, 1) := by decide +kernel
theorem dX12_answered_360 : decode cX12_answered 360 = .ok (.iaload, 1) := by decide +kernel
theorem dX12_answered_361 : decode cX12_answered 361 = .ok (.iconst 1, 1) := by decide +kernel
theorem dX12_answered_362 : decode cX12_answered 362 = .ok (.isub, 1) := by decide +kernel
theorem dX12_answered_363 : decode cX12_answered 363 = .ok (.iastore, 1) := by decide +kernel
theorem dX12_answered_364 : decode cX12_answered 364 = .ok (.aload_n 0, 1) := by decide +kernel
theorem dX12_answered_365 : decode cX12_answered 365 = .ok (.bipush 112, 2) := by decide +kernel
theorem dX12_answered_367 : decode cX12_answered 367 = .ok (.iload_n 3, 1) := by decide +kernel
theorem dX12_answered_368 : decode cX12_answered 368 = .ok (.iload 7, 2) := by decide +kernel
theorem dX12_answered_370 : decode cX12_answered 370 = .ok (.ifCond .lt 7, 3) := by decide +kernel
theorem dX12_answered_373 : decode cX12_answered 373 = .ok (.iconst 0, 1) := by decide +kernel
theorem dX12_answered_374 : decode cX12_answered 374 = .ok (.goto 6, 3) := by decide +kernel
theorem dX12_answered_377 : decode cX12_answered 377 = .ok (.sipush 146, 3) := by decide +kernel
theorem dX12_answered_380 : decode cX12_answered 380 = .ok (.invokevirtual 497, 3) := by decide +kernel
theorem dX12_answered_383 : decode cX12_answered 383 = .ok (.return_, 1) := by decide +kernel
theorem dX12_subscriptionOf_0 : decode cX12_subscriptionOf 0 = .ok (.iconst 0, 1) := by decide +kernel
theorem dX12_subscriptionOf_1 : decode cX12_subscriptionOf 1 = .ok (.istore 4, 2) := by decide +kernel
theorem dX12_subscriptionOf_3 : decode cX12_subscriptionOf 3 = .ok (.iload 4, 2) := by decide +kernel
theorem dX12_subscriptionOf_5 : decode cX12_subscriptionOf 5 = .ok (.aload_n 0, 1) := by decide +kernel
theorem dX12_subscriptionOf_6 : decode cX12_subscriptionOf 6 = .ok (.getfield 86, 3) := by decide +kernel
theorem dX12_subscriptionOf_9 : decode cX12_subscriptionOf 9 = .ok (.iload_n 1, 1) := by decide +kernel
theorem dX12_subscriptionOf_10 : decode cX12_subscriptionOf 10 = .ok (.iaload, 1) := by decide +kernel
theorem dX12_subscriptionOf_11 : decode cX12_subscriptionOf 11 = .ok (.if_icmp .ge 96, 3) := by decide +kernel
theorem dX12_subscriptionOf_14 : decode cX12_subscriptionOf 14 = .ok (.bipush 8, 2) := by decide +kernel
theorem dX12_subscriptionOf_16 : decode cX12_subscriptionOf 16 = .ok (.iload_n 1, 1) := by decide +kernel
theorem dX12_subscriptionOf_17 : decode cX12_subscriptionOf 17 = .ok (.imul, 1) := by decide +kernel
theorem dX12_subscriptionOf_18 : decode cX12_subscriptionOf 18 = .ok (.iload 4, 2) := by decide +kernel
theorem dX12_subscriptionOf_20 : decode cX12_subscriptionOf 20 = .ok (.iadd, 1) := by decide +kernel
theorem dX12_subscriptionOf_21 : decode cX12_subscriptionOf 21 = .ok (.istore 5, 2) := by decide +kernel
theorem dX12_subscriptionOf_23 : decode cX12_subscriptionOf 23 = .ok (.aload_n 0, 1) := by decide +kernel
theorem dX12_subscriptionOf_24 : decode cX12_subscriptionOf 24 = .ok (.getfield 89, 3) := by decide +kernel
theorem dX12_subscriptionOf_27 : decode cX12_subscriptionOf 27 = .ok (.iload 5, 2) := by decide +kernel
theorem dX12_subscriptionOf_29 : decode cX12_subscriptionOf 29 = .ok (.iaload, 1) := by decide +kernel
theorem dX12_subscriptionOf_30 : decode cX12_subscriptionOf 30 = .ok (.iload_n 3, 1) := by decide +kernel
theorem dX12_subscriptionOf_31 : decode cX12_subscriptionOf 31 = .ok (.if_icmp .ne 7, 3) := by decide +kernel
theorem dX12_subscriptionOf_34 : decode cX12_subscriptionOf 34 = .ok (.iconst 1, 1) := by decide +kernel
theorem dX12_subscriptionOf_35 : decode cX12_subscriptionOf 35 = .ok (.goto 4, 3) := by decide +kernel
theorem dX12_subscriptionOf_38 : decode cX12_subscriptionOf 38 = .ok (.iconst 0, 1) := by decide +kernel
theorem dX12_subscriptionOf_39 : decode cX12_subscriptionOf 39 = .ok (.istore 6, 2) := by decide +kernel
theorem dX12_subscriptionOf_41 : decode cX12_subscriptionOf 41 = .ok (.iconst 0, 1) := by decide +kernel
theorem dX12_subscriptionOf_42 : decode cX12_subscriptionOf 42 = .ok (.istore 7, 2) := by decide +kernel
theorem dX12_subscriptionOf_44 : decode cX12_subscriptionOf 44 = .ok (.iload 7, 2) := by decide +kernel
theorem dX12_subscriptionOf_46 : decode cX12_subscriptionOf 46 = .ok (.iload_n 3, 1) := by decide +kernel
theorem dX12_subscriptionOf_47 : decode cX12_subscriptionOf 47 = .ok (.if_icmp .ge 46, 3) := by decide +kernel
theorem dX12_subscriptionOf_50 : decode cX12_subscriptionOf 50 = .ok (.iload 6, 2) := by decide +kernel
theorem dX12_subscriptionOf_52 : decode cX12_subscriptionOf 52 = .ok (.ifCond .eq 41, 3) := by decide +kernel
theorem dX12_subscriptionOf_55 : decode cX12_subscriptionOf 55 = .ok (.aload_n 0, 1) := by decide +kernel
theorem dX12_subscriptionOf_56 : decode cX12_subscriptionOf 56 = .ok (.getfield 92, 3) := by decide +kernel
theorem dX12_subscriptionOf_59 : decode cX12_subscriptionOf 59 = .ok (.bipush 64, 2) := by decide +kernel
theorem dX12_subscriptionOf_61 : decode cX12_subscriptionOf 61 = .ok (.iload 5, 2) := by decide +kernel
theorem dX12_subscriptionOf_63 : decode cX12_subscriptionOf 63 = .ok (.imul, 1) := by decide +kernel
theorem dX12_subscriptionOf_64 : decode cX12_subscriptionOf 64 = .ok (.iload 7, 2) := by decide +kernel
theorem dX12_subscriptionOf_66 : decode cX12_subscriptionOf 66 = .ok (.iadd, 1) := by decide +kernel
theorem dX12_subscriptionOf_67 : decode cX12_subscriptionOf 67 = .ok (.baload, 1) := by decide +kernel
theorem dX12_subscriptionOf_68 : decode cX12_subscriptionOf 68 = .ok (.aload_n 0, 1) := by decide +kernel
theorem dX12_subscriptionOf_69 : decode cX12_subscriptionOf 69 = .ok (.getfield 31, 3) := by decide +kernel
theorem dX12_subscriptionOf_72 : decode cX12_subscriptionOf 72 = .ok (.iload_n 2, 1) := by decide +kernel
theorem dX12_subscriptionOf_73 : decode cX12_subscriptionOf 73 = .ok (.iload 7, 2) := by decide +kernel
theorem dX12_subscriptionOf_75 : decode cX12_subscriptionOf 75 = .ok (.iadd, 1) := by decide +kernel
theorem dX12_subscriptionOf_76 : decode cX12_subscriptionOf 76 = .ok (.baload, 1) := by decide +kernel
theorem dX12_subscriptionOf_77 : decode cX12_subscriptionOf 77 = .ok (.if_icmp .ne 7, 3) := by decide +kernel
theorem dX12_subscriptionOf_80 : decode cX12_subscriptionOf 80 = .ok (.iconst 1, 1) := by decide +kernel
theorem dX12_subscriptionOf_81 : decode cX12_subscriptionOf 81 = .ok (.goto 4, 3) := by decide +kernel
theorem dX12_subscriptionOf_84 : decode cX12_subscriptionOf 84 = .ok (.iconst 0, 1) := by decide +kernel
theorem dX12_subscriptionOf_85 : decode cX12_subscriptionOf 85 = .ok (.istore 6, 2) := by decide +kernel
theorem dX12_subscriptionOf_87 : decode cX12_subscriptionOf 87 = .ok (.iinc 7 1, 3) := by decide +kernel
theorem dX12_subscriptionOf_90 : decode cX12_subscriptionOf 90 = .ok (.goto (-46), 3) := by decide +kernel
theorem dX12_subscriptionOf_93 : decode cX12_subscriptionOf 93 = .ok (.iload 6, 2) := by decide +kernel
theorem dX12_subscriptionOf_95 : decode cX12_subscriptionOf 95 = .ok (.ifCond .eq 6, 3) := by decide +kernel
theorem dX12_subscriptionOf_98 : decode cX12_subscriptionOf 98 = .ok (.iload 4, 2) := by decide +kernel
theorem dX12_subscriptionOf_100 : decode cX12_subscriptionOf 100 = .ok (.ireturn, 1) := by decide +kernel
theorem dX12_subscriptionOf_101 : decode cX12_subscriptionOf 101 = .ok (.iinc 4 1, 3) := by decide +kernel
theorem dX12_subscriptionOf_104 : decode cX12_subscriptionOf 104 = .ok (.goto (-101), 3) := by decide +kernel
theorem dX12_subscriptionOf_107 : decode cX12_subscriptionOf 107 = .ok (.iconst (-1), 1) := by decide +kernel
theorem dX12_subscriptionOf_108 : decode cX12_subscriptionOf 108 = .ok (.ireturn, 1) := by decide +kernel
theorem dX12_subscribe_0 : decode cX12_subscribe 0 = .ok (.aload_n 0, 1) := by decide +kernel
theorem dX12_subscribe_1 : decode cX12_subscribe 1 = .ok (.getfield 34, 3) := by decide +kernel
theorem dX12_subscribe_4 : decode cX12_subscribe 4 = .ok (.aload_n 0, 1) := by decide +kernel
theorem dX12_subscribe_5 : decode cX12_subscribe 5 = .ok (.getfield 271, 3) := by decide +kernel
theorem dX12_subscribe_8 : decode cX12_subscribe 8 = .ok (.iaload, 1) := by decide +kernel
theorem dX12_subscribe_9 : decode cX12_subscribe 9 = .ok (.istore_n 1, 1) := by decide +kernel
theorem dX12_subscribe_10 : decode cX12_subscribe 10 = .ok (.aload_n 0, 1) := by decide +kernel
theorem dX12_subscribe_11 : decode cX12_subscribe 11 = .ok (.invokevirtual 350, 3) := by decide +kernel
theorem dX12_subscribe_14 : decode cX12_subscribe 14 = .ok (.istore_n 2, 1) := by decide +kernel
theorem dX12_subscribe_15 : decode cX12_subscribe 15 = .ok (.aload_n 0, 1) := by decide +kernel
theorem dX12_subscribe_16 : decode cX12_subscribe 16 = .ok (.getfield 283, 3) := by decide +kernel
theorem dX12_subscribe_19 : decode cX12_subscribe 19 = .ok (.ifCond .ne 14, 3) := by decide +kernel
theorem dX12_subscribe_22 : decode cX12_subscribe 22 = .ok (.iload_n 2, 1) := by decide +kernel
theorem dX12_subscribe_23 : decode cX12_subscribe 23 = .ok (.ifCond .ne 10, 3) := by decide +kernel
theorem dX12_subscribe_26 : decode cX12_subscribe 26 = .ok (.aload_n 0, 1) := by decide +kernel
theorem dX12_subscribe_27 : decode cX12_subscribe 27 = .ok (.sipush 130, 3) := by decide +kernel
theorem dX12_subscribe_30 : decode cX12_subscribe 30 = .ok (.invokevirtual 343, 3) := by decide +kernel
theorem dX12_subscribe_33 : decode cX12_subscribe 33 = .ok (.aload_n 0, 1) := by decide +kernel
theorem dX12_subscribe_34 : decode cX12_subscribe 34 = .ok (.getfield 283, 3) := by decide +kernel
theorem dX12_subscribe_37 : decode cX12_subscribe 37 = .ok (.ifCond .eq 4, 3) := by decide +kernel
theorem dX12_subscribe_40 : decode cX12_subscribe 40 = .ok (.return_, 1) := by decide +kernel
theorem dX12_subscribe_41 : decode cX12_subscribe 41 = .ok (.aload_n 0, 1) := by decide +kernel
theorem dX12_subscribe_42 : decode cX12_subscribe 42 = .ok (.bipush 11, 2) := by decide +kernel
theorem dX12_subscribe_44 : decode cX12_subscribe 44 = .ok (.invokestatic 381, 3) := by decide +kernel
theorem dX12_subscribe_47 : decode cX12_subscribe 47 = .ok (.bipush 38, 2) := by decide +kernel
theorem dX12_subscribe_49 : decode cX12_subscribe 49 = .ok (.invokestatic 381, 3) := by decide +kernel
theorem dX12_subscribe_52 : decode cX12_subscribe 52 = .ok (.lor, 1) := by decide +kernel
theorem dX12_subscribe_53 : decode cX12_subscribe 53 = .ok (.invokevirtual 419, 3) := by decide +kernel
theorem dX12_subscribe_56 : decode cX12_subscribe 56 = .ok (.aload_n 0, 1) := by decide +kernel
theorem dX12_subscribe_57 : decode cX12_subscribe 57 = .ok (.getfield 283, 3) := by decide +kernel
theorem dX12_subscribe_60 : decode cX12_subscribe 60 = .ok (.ifCond .ne 32, 3) := by decide +kernel
theorem dX12_subscribe_63 : decode cX12_subscribe 63 = .ok (.aload_n 0, 1) := by decide +kernel
theorem dX12_subscribe_64 : decode cX12_subscribe 64 = .ok (.getfield 210, 3) := by decide +kernel
theorem dX12_subscribe_67 : decode cX12_subscribe 67 = .ok (.bipush 11, 2) := by decide +kernel
theorem dX12_subscribe_69 : decode cX12_subscribe 69 = .ok (.baload, 1) := by decide +kernel
theorem dX12_subscribe_70 : decode cX12_subscribe 70 = .ok (.ifCond .eq 22, 3) := by decide +kernel
theorem dX12_subscribe_73 : decode cX12_subscribe 73 = .ok (.aload_n 0, 1) := by decide +kernel
theorem dX12_subscribe_74 : decode cX12_subscribe 74 = .ok (.getfield 213, 3) := by decide +kernel
theorem dX12_subscribe_77 : decode cX12_subscribe 77 = .ok (.bipush 11, 2) := by decide +kernel
theorem dX12_subscribe_79 : decode cX12_subscribe 79 = .ok (.laload, 1) := by decide +kernel
theorem dX12_subscribe_80 : decode cX12_subscribe 80 = .ok (.lconst 0, 1) := by decide +kernel
theorem dX12_subscribe_81 : decode cX12_subscribe 81 = .ok (.lcmp, 1) := by decide +kernel
theorem dX12_subscribe_82 : decode cX12_subscribe 82 = .ok (.ifCond .ne 10, 3) := by decide +kernel
theorem dX12_subscribe_85 : decode cX12_subscribe 85 = .ok (.aload_n 0, 1) := by decide +kernel
theorem dX12_subscribe_86 : decode cX12_subscribe 86 = .ok (.sipush 130, 3) := by decide +kernel
theorem dX12_subscribe_89 : decode cX12_subscribe 89 = .ok (.invokevirtual 343, 3) := by decide +kernel
theorem dX12_subscribe_92 : decode cX12_subscribe 92 = .ok (.aload_n 0, 1) := by decide +kernel
theorem dX12_subscribe_93 : decode cX12_subscribe 93 = .ok (.getfield 210, 3) := by decide +kernel
theorem dX12_subscribe_96 : decode cX12_subscribe 96 = .ok (.bipush 11, 2) := by decide +kernel
theorem dX12_subscribe_98 : decode cX12_subscribe 98 = .ok (.baload, 1) := by decide +kernel
theorem dX12_subscribe_99 : decode cX12_subscribe 99 = .ok (.ifCond .eq 14, 3) := by decide +kernel
theorem dX12_subscribe_102 : decode cX12_subscribe 102 = .ok (.aload_n 0, 1) := by decide +kernel
theorem dX12_subscribe_103 : decode cX12_subscribe 103 = .ok (.getfield 213, 3) := by decide +kernel
theorem dX12_subscribe_106 : decode cX12_subscribe 106 = .ok (.bipush 11, 2) := by decide +kernel
theorem dX12_subscribe_108 : decode cX12_subscribe 108 = .ok (.laload, 1) := by decide +kernel
theorem dX12_subscribe_109 : decode cX12_subscribe 109 = .ok (.l2i, 1) := by decide +kernel
theorem dX12_subscribe_110 : decode cX12_subscribe 110 = .ok (.goto 4, 3) := by decide +kernel
theorem dX12_subscribe_113 : decode cX12_subscribe 113 = .ok (.iconst 0, 1) := by decide +kernel
theorem dX12_subscribe_114 : decode cX12_subscribe 114 = .ok (.istore_n 3, 1) := by decide +kernel
theorem dX12_subscribe_115 : decode cX12_subscribe 115 = .ok (.iconst 0, 1) := by decide +kernel
theorem dX12_subscribe_116 : decode cX12_subscribe 116 = .ok (.istore 4, 2) := by decide +kernel
theorem dX12_subscribe_118 : decode cX12_subscribe 118 = .ok (.aload_n 0, 1) := by decide +kernel
theorem dX12_subscribe_119 : decode cX12_subscribe 119 = .ok (.getfield 283, 3) := by decide +kernel
theorem dX12_subscribe_122 : decode cX12_subscribe 122 = .ok (.ifCond .ne 21, 3) := by decide +kernel
theorem dX12_subscribe_125 : decode cX12_subscribe 125 = .ok (.aload_n 0, 1) := by decide +kernel
theorem dX12_subscribe_126 : decode cX12_subscribe 126 = .ok (.getfield 274, 3) := by decide +kernel
theorem dX12_subscribe_129 : decode cX12_subscribe 129 = .ok (.aload_n 0, 1) := by decide +kernel
theorem dX12_subscribe_130 : decode cX12_subscribe 130 = .ok (.getfield 277, 3) := by decide +kernel
theorem dX12_subscribe_133 : decode cX12_subscribe 133 = .ok (.if_icmp .ne 10, 3) := by decide +kernel
theorem dX12_subscribe_136 : decode cX12_subscribe 136 = .ok (.aload_n 0, 1) := by decide +kernel
theorem dX12_subscribe_137 : decode cX12_subscribe 137 = .ok (.sipush 130, 3) := by decide +kernel
theorem dX12_subscribe_140 : decode cX12_subscribe 140 = .ok (.invokevirtual 343, 3) := by decide +kernel
theorem dX12_subscribe_143 : decode cX12_subscribe 143 = .ok (.aload_n 0, 1) := by decide +kernel
theorem dX12_subscribe_144 : decode cX12_subscribe 144 = .ok (.getfield 283, 3) := by decide +kernel
theorem dX12_subscribe_147 : decode cX12_subscribe 147 = .ok (.ifCond .ne 148, 3) := by decide +kernel
theorem dX12_subscribe_150 : decode cX12_subscribe 150 = .ok (.aload_n 0, 1) := by decide +kernel
theorem dX12_subscribe_151 : decode cX12_subscribe 151 = .ok (.getfield 274, 3) := by decide +kernel
theorem dX12_subscribe_154 : decode cX12_subscribe 154 = .ok (.aload_n 0, 1) := by decide +kernel
theorem dX12_subscribe_155 : decode cX12_subscribe 155 = .ok (.getfield 277, 3) := by decide +kernel
theorem dX12_subscribe_158 : decode cX12_subscribe 158 = .ok (.if_icmp .ge 137, 3) := by decide +kernel
theorem dX12_subscribe_161 : decode cX12_subscribe 161 = .ok (.aload_n 0, 1) := by decide +kernel
theorem dX12_subscribe_162 : decode cX12_subscribe 162 = .ok (.invokevirtual 388, 3) := by decide +kernel
theorem dX12_subscribe_165 : decode cX12_subscribe 165 = .ok (.aload_n 0, 1) := by decide +kernel
theorem dX12_subscribe_166 : decode cX12_subscribe 166 = .ok (.invokevirtual 346, 3) := by decide +kernel
theorem dX12_subscribe_169 : decode cX12_subscribe 169 = .ok (.istore 5, 2) := by decide +kernel
theorem dX12_subscribe_171 : decode cX12_subscribe 171 = .ok (.aload_n 0, 1) := by decide +kernel
theorem dX12_subscribe_172 : decode cX12_subscribe 172 = .ok (.getfield 283, 3) := by decide +kernel
theorem dX12_subscribe_175 : decode cX12_subscribe 175 = .ok (.ifCond .ne 19, 3) := by decide +kernel
theorem dX12_subscribe_178 : decode cX12_subscribe 178 = .ok (.iload 5, 2) := by decide +kernel
theorem dX12_subscribe_180 : decode cX12_subscribe 180 = .ok (.sipush 192, 3) := by decide +kernel
theorem dX12_subscribe_183 : decode cX12_subscribe 183 = .ok (.iand, 1) := by decide +kernel
theorem dX12_subscribe_184 : decode cX12_subscribe 184 = .ok (.ifCond .eq 10, 3) := by decide +kernel
theorem dX12_subscribe_187 : decode cX12_subscribe 187 = .ok (.aload_n 0, 1) := by decide +kernel
theorem dX12_subscribe_188 : decode cX12_subscribe 188 = .ok (.sipush 129, 3) := by decide +kernel
theorem dX12_subscribe_191 : decode cX12_subscribe 191 = .ok (.invokevirtual 343, 3) := by decide +kernel
theorem dX12_subscribe_194 : decode cX12_subscribe 194 = .ok (.aload_n 0, 1) := by decide +kernel
theorem dX12_subscribe_195 : decode cX12_subscribe 195 = .ok (.getfield 283, 3) := by decide +kernel
theorem dX12_subscribe_198 : decode cX12_subscribe 198 = .ok (.ifCond .ne 53, 3) := by decide +kernel
theorem dX12_subscribe_201 : decode cX12_subscribe 201 = .ok (.iload 5, 2) := by decide +kernel
theorem dX12_subscribe_203 : decode cX12_subscribe 203 = .ok (.iconst 3, 1) := by decide +kernel
theorem dX12_subscribe_204 : decode cX12_subscribe 204 = .ok (.iand, 1) := by decide +kernel
theorem dX12_subscribe_205 : decode cX12_subscribe 205 = .ok (.iconst 3, 1) := by decide +kernel
theorem dX12_subscribe_206 : decode cX12_subscribe 206 = .ok (.if_icmp .eq 38, 3) := by decide +kernel
theorem dX12_subscribe_209 : decode cX12_subscribe 209 = .ok (.iload 5, 2) := by decide +kernel
theorem dX12_subscribe_211 : decode cX12_subscribe 211 = .ok (.iconst 4, 1) := by decide +kernel
theorem dX12_subscribe_212 : decode cX12_subscribe 212 = .ok (.ishr, 1) := by decide +kernel
theorem dX12_subscribe_213 : decode cX12_subscribe 213 = .ok (.iconst 3, 1) := by decide +kernel
theorem dX12_subscribe_214 : decode cX12_subscribe 214 = .ok (.iand, 1) := by decide +kernel
theorem dX12_subscribe_215 : decode cX12_subscribe 215 = .ok (.iconst 3, 1) := by decide +kernel
theorem dX12_subscribe_216 : decode cX12_subscribe 216 = .ok (.if_icmp .eq 28, 3) := by decide +kernel
theorem dX12_subscribe_219 : decode cX12_subscribe 219 = .ok (.iload 5, 2) := by decide +kernel
theorem dX12_subscribe_221 : decode cX12_subscribe 221 = .ok (.iconst 4, 1) := by decide +kernel
theorem dX12_subscribe_222 : decode cX12_subscribe 222 = .ok (.iand, 1) := by decide +kernel
theorem dX12_subscribe_223 : decode cX12_subscribe 223 = .ok (.ifCond .eq 28, 3) := by decide +kernel
theorem dX12_subscribe_226 : decode cX12_subscribe 226 = .ok (.aload_n 0, 1) := by decide +kernel
theorem dX12_subscribe_227 : decode cX12_subscribe 227 = .ok (.getfield 31, 3) := by decide +kernel
theorem dX12_subscribe_230 : decode cX12_subscribe 230 = .ok (.aload_n 0, 1) := by decide +kernel
theorem dX12_subscribe_231 : decode cX12_subscribe 231 = .ok (.getfield 353, 3) := by decide +kernel
theorem dX12_subscribe_234 : decode cX12_subscribe 234 = .ok (.aload_n 0, 1) := by decide +kernel
theorem dX12_subscribe_235 : decode cX12_subscribe 235 = .ok (.getfield 356, 3) := by decide +kernel
theorem dX12_subscribe_238 : decode cX12_subscribe 238 = .ok (.invokestatic 391, 3) := by decide +kernel
theorem dX12_subscribe_241 : decode cX12_subscribe 241 = .ok (.ifCond .eq 10, 3) := by decide +kernel
theorem dX12_subscribe_244 : decode cX12_subscribe 244 = .ok (.aload_n 0, 1) := by decide +kernel
theorem dX12_subscribe_245 : decode cX12_subscribe 245 = .ok (.sipush 130, 3) := by decide +kernel
theorem dX12_subscribe_248 : decode cX12_subscribe 248 = .ok (.invokevirtual 343, 3) := by decide +kernel
theorem dX12_subscribe_251 : decode cX12_subscribe 251 = .ok (.aload_n 0, 1) := by decide +kernel
theorem dX12_subscribe_252 : decode cX12_subscribe 252 = .ok (.getfield 283, 3) := by decide +kernel
theorem dX12_subscribe_255 : decode cX12_subscribe 255 = .ok (.ifCond .ne 37, 3) := by decide +kernel
theorem dX12_subscribe_258 : decode cX12_subscribe 258 = .ok (.aload_n 0, 1) := by decide +kernel
theorem dX12_subscribe_259 : decode cX12_subscribe 259 = .ok (.getfield 234, 3) := by decide +kernel
theorem dX12_subscribe_262 : decode cX12_subscribe 262 = .ok (.iload 4, 2) := by decide +kernel
theorem dX12_subscribe_264 : decode cX12_subscribe 264 = .ok (.aload_n 0, 1) := by decide +kernel
theorem dX12_subscribe_265 : decode cX12_subscribe 265 = .ok (.getfield 353, 3) := by decide +kernel
theorem dX12_subscribe_268 : decode cX12_subscribe 268 = .ok (.iastore, 1) := by decide +kernel
theorem dX12_subscribe_269 : decode cX12_subscribe 269 = .ok (.aload_n 0, 1) := by decide +kernel
theorem dX12_subscribe_270 : decode cX12_subscribe 270 = .ok (.getfield 237, 3) := by decide +kernel
theorem dX12_subscribe_273 : decode cX12_subscribe 273 = .ok (.iload 4, 2) := by decide +kernel
theorem dX12_subscribe_275 : decode cX12_subscribe 275 = .ok (.aload_n 0, 1) := by decide +kernel
theorem dX12_subscribe_276 : decode cX12_subscribe 276 = .ok (.getfield 356, 3) := by decide +kernel
theorem dX12_subscribe_279 : decode cX12_subscribe 279 = .ok (.iastore, 1) := by decide +kernel
theorem dX12_subscribe_280 : decode cX12_subscribe 280 = .ok (.aload_n 0, 1) := by decide +kernel
theorem dX12_subscribe_281 : decode cX12_subscribe 281 = .ok (.getfield 240, 3) := by decide +kernel
theorem dX12_subscribe_284 : decode cX12_subscribe 284 = .ok (.iload 4, 2) := by decide +kernel
theorem dX12_subscribe_286 : decode cX12_subscribe 286 = .ok (.iload 5, 2) := by decide +kernel
theorem dX12_subscribe_288 : decode cX12_subscribe 288 = .ok (.iastore, 1) := by decide +kernel
theorem dX12_subscribe_289 : decode cX12_subscribe 289 = .ok (.iinc 4 1, 3) := by decide +kernel
theorem dX12_subscribe_292 : decode cX12_subscribe 292 = .ok (.goto (-149), 3) := by decide +kernel
theorem dX12_subscribe_295 : decode cX12_subscribe 295 = .ok (.aload_n 0, 1) := by decide +kernel
theorem dX12_subscribe_296 : decode cX12_subscribe 296 = .ok (.getfield 283, 3) := by decide +kernel
theorem dX12_subscribe_299 : decode cX12_subscribe 299 = .ok (.ifCond .eq 4, 3) := by decide +kernel
theorem dX12_subscribe_302 : decode cX12_subscribe 302 = .ok (.return_, 1) := by decide +kernel
theorem dX12_subscribe_303 : decode cX12_subscribe 303 = .ok (.iconst 0, 1) := by decide +kernel
theorem dX12_subscribe_304 : decode cX12_subscribe 304 = .ok (.istore 5, 2) := by decide +kernel
theorem dX12_subscribe_306 : decode cX12_subscribe 306 = .ok (.iload 5, 2) := by decide +kernel
theorem dX12_subscribe_308 : decode cX12_subscribe 308 = .ok (.iload 4, 2) := by decide +kernel
theorem dX12_subscribe_310 : decode cX12_subscribe 310 = .ok (.if_icmp .ge 24, 3) := by decide +kernel
theorem dX12_subscribe_313 : decode cX12_subscribe 313 = .ok (.aload_n 0, 1) := by decide +kernel
theorem dX12_subscribe_314 : decode cX12_subscribe 314 = .ok (.getfield 231, 3) := by decide +kernel
theorem dX12_subscribe_317 : decode cX12_subscribe 317 = .ok (.iload 5, 2) := by decide +kernel
theorem dX12_subscribe_319 : decode cX12_subscribe 319 = .ok (.aload_n 0, 1) := by decide +kernel
theorem dX12_subscribe_320 : decode cX12_subscribe 320 = .ok (.iload_n 1, 1) := by decide +kernel
theorem dX12_subscribe_321 : decode cX12_subscribe 321 = .ok (.iload 5, 2) := by decide +kernel
theorem dX12_subscribe_323 : decode cX12_subscribe 323 = .ok (.iload_n 3, 1) := by decide +kernel
theorem dX12_subscribe_324 : decode cX12_subscribe 324 = .ok (.invokevirtual 564, 3) := by decide +kernel
theorem dX12_subscribe_327 : decode cX12_subscribe 327 = .ok (.iastore, 1) := by decide +kernel
theorem dX12_subscribe_328 : decode cX12_subscribe 328 = .ok (.iinc 5 1, 3) := by decide +kernel
theorem dX12_subscribe_331 : decode cX12_subscribe 331 = .ok (.goto (-25), 3) := by decide +kernel
theorem dX12_subscribe_334 : decode cX12_subscribe 334 = .ok (.aload_n 0, 1) := by decide +kernel
theorem dX12_subscribe_335 : decode cX12_subscribe 335 = .ok (.iconst 0, 1) := by decide +kernel
theorem dX12_subscribe_336 : decode cX12_subscribe 336 = .ok (.putfield 450, 3) := by decide +kernel
theorem dX12_subscribe_339 : decode cX12_subscribe 339 = .ok (.aload_n 0, 1) := by decide +kernel
theorem dX12_subscribe_340 : decode cX12_subscribe 340 = .ok (.iload_n 2, 1) := by decide +kernel
theorem dX12_subscribe_341 : decode cX12_subscribe 341 = .ok (.bipush 8, 2) := by decide +kernel
theorem dX12_subscribe_343 : decode cX12_subscribe 343 = .ok (.ishr, 1) := by decide +kernel
theorem dX12_subscribe_344 : decode cX12_subscribe 344 = .ok (.invokevirtual 453, 3) := by decide +kernel
theorem dX12_subscribe_347 : decode cX12_subscribe 347 = .ok (.aload_n 0, 1) := by decide +kernel
theorem dX12_subscribe_348 : decode cX12_subscribe 348 = .ok (.iload_n 2, 1) := by decide +kernel
theorem dX12_subscribe_349 : decode cX12_subscribe 349 = .ok (.invokevirtual 453, 3) := by decide +kernel
theorem dX12_subscribe_352 : decode cX12_subscribe 352 = .ok (.aload_n 0, 1) := by decide +kernel
theorem dX12_subscribe_353 : decode cX12_subscribe 353 = .ok (.iconst 0, 1) := by decide +kernel
theorem dX12_subscribe_354 : decode cX12_subscribe 354 = .ok (.invokevirtual 453, 3) := by decide +kernel
theorem dX12_subscribe_357 : decode cX12_subscribe 357 = .ok (.iconst 0, 1) := by decide +kernel
theorem dX12_subscribe_358 : decode cX12_subscribe 358 = .ok (.istore 5, 2) := by decide +kernel
theorem dX12_subscribe_360 : decode cX12_subscribe 360 = .ok (.iload 5, 2) := by decide +kernel
theorem dX12_subscribe_362 : decode cX12_subscribe 362 = .ok (.iload 4, 2) := by decide +kernel
theorem dX12_subscribe_364 : decode cX12_subscribe 364 = .ok (.if_icmp .ge 20, 3) := by decide +kernel
theorem dX12_subscribe_367 : decode cX12_subscribe 367 = .ok (.aload_n 0, 1) := by decide +kernel
theorem dX12_subscribe_368 : decode cX12_subscribe 368 = .ok (.aload_n 0, 1) := by decide +kernel
theorem dX12_subscribe_369 : decode cX12_subscribe 369 = .ok (.getfield 231, 3) := by decide +kernel
theorem dX12_subscribe_372 : decode cX12_subscribe 372 = .ok (.iload 5, 2) := by decide +kernel
theorem dX12_subscribe_374 : decode cX12_subscribe 374 = .ok (.iaload, 1) := by decide +kernel
theorem dX12_subscribe_375 : decode cX12_subscribe 375 = .ok (.invokevirtual 453, 3) := by decide +kernel
theorem dX12_subscribe_378 : decode cX12_subscribe 378 = .ok (.iinc 5 1, 3) := by decide +kernel
theorem dX12_subscribe_381 : decode cX12_subscribe 381 = .ok (.goto (-21), 3) := by decide +kernel
theorem dX12_subscribe_384 : decode cX12_subscribe 384 = .ok (.aload_n 0, 1) := by decide +kernel
theorem dX12_subscribe_385 : decode cX12_subscribe 385 = .ok (.aload_n 0, 1) := by decide +kernel
theorem dX12_subscribe_386 : decode cX12_subscribe 386 = .ok (.getfield 271, 3) := by decide +kernel
theorem dX12_subscribe_389 : decode cX12_subscribe 389 = .ok (.sipush 144, 3) := by decide +kernel
theorem dX12_subscribe_392 : decode cX12_subscribe 392 = .ok (.invokevirtual 456, 3) := by decide +kernel
theorem dX12_subscribe_395 : decode cX12_subscribe 395 = .ok (.iconst 0, 1) := by decide +kernel
theorem dX12_subscribe_396 : decode cX12_subscribe 396 = .ok (.istore 5, 2) := by decide +kernel
theorem dX12_subscribe_398 : decode cX12_subscribe 398 = .ok (.iload 5, 2) := by decide +kernel
theorem dX12_subscribe_400 : decode cX12_subscribe 400 = .ok (.iload 4, 2) := by decide +kernel
theorem dX12_subscribe_402 : decode cX12_subscribe 402 = .ok (.if_icmp .ge 16, 3) := by decide +kernel
theorem dX12_subscribe_405 : decode cX12_subscribe 405 = .ok (.aload_n 0, 1) := by decide +kernel
theorem dX12_subscribe_406 : decode cX12_subscribe 406 = .ok (.iload_n 1, 1) := by decide +kernel
theorem dX12_subscribe_407 : decode cX12_subscribe 407 = .ok (.iload 5, 2) := by decide +kernel
theorem dX12_subscribe_409 : decode cX12_subscribe 409 = .ok (.invokevirtual 567, 3) := by decide +kernel
theorem dX12_subscribe_412 : decode cX12_subscribe 412 = .ok (.iinc 5 1, 3) := by decide +kernel
theorem dX12_subscribe_415 : decode cX12_subscribe 415 = .ok (.goto (-17), 3) := by decide +kernel
theorem dX12_subscribe_418 : decode cX12_subscribe 418 = .ok (.return_, 1) := by decide +kernel
theorem dX12_subscribeOne_0 : decode cX12_subscribeOne 0 = .ok (.aload_n 0, 1) := by decide +kernel
theorem dX12_subscribeOne_1 : decode cX12_subscribeOne 1 = .ok (.getfield 234, 3) := by decide +kernel
theorem dX12_subscribeOne_4 : decode cX12_subscribeOne 4 = .ok (.iload_n 2, 1) := by decide +kernel
theorem dX12_subscribeOne_5 : decode cX12_subscribeOne 5 = .ok (.iaload, 1) := by decide +kernel
theorem dX12_subscribeOne_6 : decode cX12_subscribeOne 6 = .ok (.istore 4, 2) := by decide +kernel
theorem dX12_subscribeOne_8 : decode cX12_subscribeOne 8 = .ok (.aload_n 0, 1) := by decide +kernel
theorem dX12_subscribeOne_9 : decode cX12_subscribeOne 9 = .ok (.getfield 237, 3) := by decide +kernel
theorem dX12_subscribeOne_12 : decode cX12_subscribeOne 12 = .ok (.iload_n 2, 1) := by decide +kernel
theorem dX12_subscribeOne_13 : decode cX12_subscribeOne 13 = .ok (.iaload, 1) := by decide +kernel
theorem dX12_subscribeOne_14 : decode cX12_subscribeOne 14 = .ok (.istore 5, 2) := by decide +kernel
theorem dX12_subscribeOne_16 : decode cX12_subscribeOne 16 = .ok (.aload_n 0, 1) := by decide +kernel
theorem dX12_subscribeOne_17 : decode cX12_subscribeOne 17 = .ok (.getfield 31, 3) := by decide +kernel
theorem dX12_subscribeOne_20 : decode cX12_subscribeOne 20 = .ok (.iload 4, 2) := by decide +kernel
theorem dX12_subscribeOne_22 : decode cX12_subscribeOne 22 = .ok (.iload 5, 2) := by decide +kernel
theorem dX12_subscribeOne_24 : decode cX12_subscribeOne 24 = .ok (.invokestatic 395, 3) := by decide +kernel
theorem dX12_subscribeOne_27 : decode cX12_subscribeOne 27 = .ok (.ifCond .ne 21, 3) := by decide +kernel
theorem dX12_subscribeOne_30 : decode cX12_subscribeOne 30 = .ok (.aload_n 0, 1) := by decide +kernel
theorem dX12_subscribeOne_31 : decode cX12_subscribeOne 31 = .ok (.getfield 31, 3) := by decide +kernel
theorem dX12_subscribeOne_34 : decode cX12_subscribeOne 34 = .ok (.iload 4, 2) := by decide +kernel
theorem dX12_subscribeOne_36 : decode cX12_subscribeOne 36 = .ok (.iload 5, 2) := by decide +kernel
theorem dX12_subscribeOne_38 : decode cX12_subscribeOne 38 = .ok (.invokestatic 501, 3) := by decide +kernel
theorem dX12_subscribeOne_41 : decode cX12_subscribeOne 41 = .ok (.ifCond .ne 7, 3) := by decide +kernel
theorem dX12_subscribeOne_44 : decode cX12_subscribeOne 44 = .ok (.sipush 143, 3) := by decide +kernel
theorem dX12_subscribeOne_47 : decode cX12_subscribeOne 47 = .ok (.ireturn, 1) := by decide +kernel
theorem dX12_subscribeOne_48 : decode cX12_subscribeOne 48 = .ok (.aload_n 0, 1) := by decide +kernel
theorem dX12_subscribeOne_49 : decode cX12_subscribeOne 49 = .ok (.iload_n 1, 1) := by decide +kernel
theorem dX12_subscribeOne_50 : decode cX12_subscribeOne 50 = .ok (.iload 4, 2) := by decide +kernel
theorem dX12_subscribeOne_52 : decode cX12_subscribeOne 52 = .ok (.iload 5, 2) := by decide +kernel
theorem dX12_subscribeOne_54 : decode cX12_subscribeOne 54 = .ok (.invokevirtual 570, 3) := by decide +kernel
theorem dX12_subscribeOne_57 : decode cX12_subscribeOne 57 = .ok (.istore 6, 2) := by decide +kernel
theorem dX12_subscribeOne_59 : decode cX12_subscribeOne 59 = .ok (.aload_n 0, 1) := by decide +kernel
theorem dX12_subscribeOne_60 : decode cX12_subscribeOne 60 = .ok (.getfield 243, 3) := by decide +kernel
theorem dX12_subscribeOne_63 : decode cX12_subscribeOne 63 = .ok (.iload_n 2, 1) := by decide +kernel
theorem dX12_subscribeOne_64 : decode cX12_subscribeOne 64 = .ok (.iload 6, 2) := by decide +kernel
theorem dX12_subscribeOne_66 : decode cX12_subscribeOne 66 = .ok (.ifCond .ge 7, 3) := by decide +kernel
theorem dX12_subscribeOne_69 : decode cX12_subscribeOne 69 = .ok (.iconst 1, 1) := by decide +kernel
theorem dX12_subscribeOne_70 : decode cX12_subscribeOne 70 = .ok (.goto 4, 3) := by decide +kernel
theorem dX12_subscribeOne_73 : decode cX12_subscribeOne 73 = .ok (.iconst 0, 1) := by decide +kernel
theorem dX12_subscribeOne_74 : decode cX12_subscribeOne 74 = .ok (.bastore, 1) := by decide +kernel
theorem dX12_subscribeOne_75 : decode cX12_subscribeOne 75 = .ok (.iload 6, 2) := by decide +kernel
theorem dX12_subscribeOne_77 : decode cX12_subscribeOne 77 = .ok (.ifCond .ge 18, 3) := by decide +kernel
theorem dX12_subscribeOne_80 : decode cX12_subscribeOne 80 = .ok (.aload_n 0, 1) := by decide +kernel
theorem dX12_subscribeOne_81 : decode cX12_subscribeOne 81 = .ok (.getfield 86, 3) := by decide +kernel
theorem dX12_subscribeOne_84 : decode cX12_subscribeOne 84 = .ok (.iload_n 1, 1) := by decide +kernel
theorem dX12_subscribeOne_85 : decode cX12_subscribeOne 85 = .ok (.iaload, 1) := by decide +kernel
theorem dX12_subscribeOne_86 : decode cX12_subscribeOne 86 = .ok (.bipush 8, 2) := by decide +kernel
theorem dX12_subscribeOne_88 : decode cX12_subscribeOne 88 = .ok (.if_icmp .ne 7, 3) := by decide +kernel
theorem dX12_subscribeOne_91 : decode cX12_subscribeOne 91 = .ok (.sipush 151, 3) := by decide +kernel
theorem dX12_subscribeOne_94 : decode cX12_subscribeOne 94 = .ok (.ireturn, 1) := by decide +kernel
theorem dX12_subscribeOne_95 : decode cX12_subscribeOne 95 = .ok (.iload 6, 2) := by decide +kernel
theorem dX12_subscribeOne_97 : decode cX12_subscribeOne 97 = .ok (.ifCond .ge 89, 3) := by decide +kernel
theorem dX12_subscribeOne_100 : decode cX12_subscribeOne 100 = .ok (.aload_n 0, 1) := by decide +kernel
theorem dX12_subscribeOne_101 : decode cX12_subscribeOne 101 = .ok (.getfield 86, 3) := by decide +kernel
theorem dX12_subscribeOne_104 : decode cX12_subscribeOne 104 = .ok (.iload_n 1, 1) := by decide +kernel
theorem dX12_subscribeOne_105 : decode cX12_subscribeOne 105 = .ok (.dup2, 1) := by decide +kernel
