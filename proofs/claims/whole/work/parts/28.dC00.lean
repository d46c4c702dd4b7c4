theorem dX0_init_0 : decode cX0_init 0 = .ok (.aload_n 0, 1) := by decide +kernel
theorem dX0_init_1 : decode cX0_init 1 = .ok (.invokespecial 3, 3) := by decide +kernel
theorem dX0_init_4 : decode cX0_init 4 = .ok (.aload_n 0, 1) := by decide +kernel
theorem dX0_init_5 : decode cX0_init 5 = .ok (.sipush 2000, 3) := by decide +kernel
theorem dX0_init_8 : decode cX0_init 8 = .ok (.newarray .int, 2) := by decide +kernel
theorem dX0_init_10 : decode cX0_init 10 = .ok (.putfield 9, 3) := by decide +kernel
theorem dX0_init_13 : decode cX0_init 13 = .ok (.aload_n 0, 1) := by decide +kernel
theorem dX0_init_14 : decode cX0_init 14 = .ok (.sipush 405, 3) := by decide +kernel
theorem dX0_init_17 : decode cX0_init 17 = .ok (.newarray .int, 2) := by decide +kernel
theorem dX0_init_19 : decode cX0_init 19 = .ok (.putfield 15, 3) := by decide +kernel
theorem dX0_init_22 : decode cX0_init 22 = .ok (.aload_n 0, 1) := by decide +kernel
theorem dX0_init_23 : decode cX0_init 23 = .ok (.iconst 5, 1) := by decide +kernel
theorem dX0_init_24 : decode cX0_init 24 = .ok (.anewarray 18, 3) := by decide +kernel
theorem dX0_init_27 : decode cX0_init 27 = .ok (.putfield 20, 3) := by decide +kernel
theorem dX0_init_30 : decode cX0_init 30 = .ok (.aload_n 0, 1) := by decide +kernel
theorem dX0_init_31 : decode cX0_init 31 = .ok (.iload_n 1, 1) := by decide +kernel
theorem dX0_init_32 : decode cX0_init 32 = .ok (.putfield 24, 3) := by decide +kernel
theorem dX0_init_35 : decode cX0_init 35 = .ok (.return_, 1) := by decide +kernel
theorem dX0_begin_0 : decode cX0_begin 0 = .ok (.aload_n 0, 1) := by decide +kernel
theorem dX0_begin_1 : decode cX0_begin 1 = .ok (.iconst 1, 1) := by decide +kernel
theorem dX0_begin_2 : decode cX0_begin 2 = .ok (.putfield 28, 3) := by decide +kernel
theorem dX0_begin_5 : decode cX0_begin 5 = .ok (.aload_n 0, 1) := by decide +kernel
theorem dX0_begin_6 : decode cX0_begin 6 = .ok (.iconst 0, 1) := by decide +kernel
theorem dX0_begin_7 : decode cX0_begin 7 = .ok (.putfield 32, 3) := by decide +kernel
theorem dX0_begin_10 : decode cX0_begin 10 = .ok (.return_, 1) := by decide +kernel
theorem dX0_close_0 : decode cX0_close 0 = .ok (.aload_n 0, 1) := by decide +kernel
theorem dX0_close_1 : decode cX0_close 1 = .ok (.iconst 0, 1) := by decide +kernel
theorem dX0_close_2 : decode cX0_close 2 = .ok (.putfield 28, 3) := by decide +kernel
theorem dX0_close_5 : decode cX0_close 5 = .ok (.aload_n 0, 1) := by decide +kernel
theorem dX0_close_6 : decode cX0_close 6 = .ok (.aconst_null, 1) := by decide +kernel
theorem dX0_close_7 : decode cX0_close 7 = .ok (.putfield 35, 3) := by decide +kernel
theorem dX0_close_10 : decode cX0_close 10 = .ok (.aload_n 0, 1) := by decide +kernel
theorem dX0_close_11 : decode cX0_close 11 = .ok (.iconst 0, 1) := by decide +kernel
theorem dX0_close_12 : decode cX0_close 12 = .ok (.putfield 39, 3) := by decide +kernel
theorem dX0_close_15 : decode cX0_close 15 = .ok (.aload_n 0, 1) := by decide +kernel
theorem dX0_close_16 : decode cX0_close 16 = .ok (.iconst 0, 1) := by decide +kernel
theorem dX0_close_17 : decode cX0_close 17 = .ok (.putfield 42, 3) := by decide +kernel
theorem dX0_close_20 : decode cX0_close 20 = .ok (.iconst 0, 1) := by decide +kernel
theorem dX0_close_21 : decode cX0_close 21 = .ok (.istore_n 1, 1) := by decide +kernel
theorem dX0_close_22 : decode cX0_close 22 = .ok (.iload_n 1, 1) := by decide +kernel
theorem dX0_close_23 : decode cX0_close 23 = .ok (.iconst 4, 1) := by decide +kernel
theorem dX0_close_24 : decode cX0_close 24 = .ok (.if_icmp .gt 16, 3) := by decide +kernel
theorem dX0_close_27 : decode cX0_close 27 = .ok (.aload_n 0, 1) := by decide +kernel
theorem dX0_close_28 : decode cX0_close 28 = .ok (.getfield 20, 3) := by decide +kernel
theorem dX0_close_31 : decode cX0_close 31 = .ok (.iload_n 1, 1) := by decide +kernel
theorem dX0_close_32 : decode cX0_close 32 = .ok (.aconst_null, 1) := by decide +kernel
theorem dX0_close_33 : decode cX0_close 33 = .ok (.aastore, 1) := by decide +kernel
theorem dX0_close_34 : decode cX0_close 34 = .ok (.iinc 1 1, 3) := by decide +kernel
theorem dX0_close_37 : decode cX0_close 37 = .ok (.goto (-15), 3) := by decide +kernel
theorem dX0_close_40 : decode cX0_close 40 = .ok (.return_, 1) := by decide +kernel
theorem dX0_type_0 : decode cX0_type 0 = .ok (.aload_n 0, 1) := by decide +kernel
theorem dX0_type_1 : decode cX0_type 1 = .ok (.getfield 15, 3) := by decide +kernel
theorem dX0_type_4 : decode cX0_type 4 = .ok (.iconst 0, 1) := by decide +kernel
theorem dX0_type_5 : decode cX0_type 5 = .ok (.iaload, 1) := by decide +kernel
theorem dX0_type_6 : decode cX0_type 6 = .ok (.iconst 4, 1) := by decide +kernel
theorem dX0_type_7 : decode cX0_type 7 = .ok (.ishr, 1) := by decide +kernel
theorem dX0_type_8 : decode cX0_type 8 = .ok (.ireturn, 1) := by decide +kernel
theorem dX0_accept_0 : decode cX0_accept 0 = .ok (.aload_n 0, 1) := by decide +kernel
theorem dX0_accept_1 : decode cX0_accept 1 = .ok (.getfield 42, 3) := by decide +kernel
theorem dX0_accept_4 : decode cX0_accept 4 = .ok (.sipush 405, 3) := by decide +kernel
theorem dX0_accept_7 : decode cX0_accept 7 = .ok (.if_icmp .ge 23, 3) := by decide +kernel
theorem dX0_accept_10 : decode cX0_accept 10 = .ok (.aload_n 0, 1) := by decide +kernel
theorem dX0_accept_11 : decode cX0_accept 11 = .ok (.getfield 15, 3) := by decide +kernel
theorem dX0_accept_14 : decode cX0_accept 14 = .ok (.aload_n 0, 1) := by decide +kernel
theorem dX0_accept_15 : decode cX0_accept 15 = .ok (.getfield 42, 3) := by decide +kernel
theorem dX0_accept_18 : decode cX0_accept 18 = .ok (.iload_n 1, 1) := by decide +kernel
theorem dX0_accept_19 : decode cX0_accept 19 = .ok (.iastore, 1) := by decide +kernel
theorem dX0_accept_20 : decode cX0_accept 20 = .ok (.aload_n 0, 1) := by decide +kernel
theorem dX0_accept_21 : decode cX0_accept 21 = .ok (.dup, 1) := by decide +kernel
theorem dX0_accept_22 : decode cX0_accept 22 = .ok (.getfield 42, 3) := by decide +kernel
theorem dX0_accept_25 : decode cX0_accept 25 = .ok (.iconst 1, 1) := by decide +kernel
theorem dX0_accept_26 : decode cX0_accept 26 = .ok (.iadd, 1) := by decide +kernel
theorem dX0_accept_27 : decode cX0_accept 27 = .ok (.putfield 42, 3) := by decide +kernel
theorem dX0_accept_30 : decode cX0_accept 30 = .ok (.aload_n 0, 1) := by decide +kernel
theorem dX0_accept_31 : decode cX0_accept 31 = .ok (.getfield 42, 3) := by decide +kernel
theorem dX0_accept_34 : decode cX0_accept 34 = .ok (.iconst 1, 1) := by decide +kernel
theorem dX0_accept_35 : decode cX0_accept 35 = .ok (.if_icmp .ne 10, 3) := by decide +kernel
theorem dX0_accept_38 : decode cX0_accept 38 = .ok (.aload_n 0, 1) := by decide +kernel
theorem dX0_accept_39 : decode cX0_accept 39 = .ok (.iconst 0, 1) := by decide +kernel
theorem dX0_accept_40 : decode cX0_accept 40 = .ok (.putfield 45, 3) := by decide +kernel
theorem dX0_accept_43 : decode cX0_accept 43 = .ok (.iconst 1, 1) := by decide +kernel
theorem dX0_accept_44 : decode cX0_accept 44 = .ok (.ireturn, 1) := by decide +kernel
theorem dX0_accept_45 : decode cX0_accept 45 = .ok (.aload_n 0, 1) := by decide +kernel
theorem dX0_accept_46 : decode cX0_accept 46 = .ok (.getfield 45, 3) := by decide +kernel
theorem dX0_accept_49 : decode cX0_accept 49 = .ok (.ifCond .ne 60, 3) := by decide +kernel
theorem dX0_accept_52 : decode cX0_accept 52 = .ok (.iload_n 1, 1) := by decide +kernel
theorem dX0_accept_53 : decode cX0_accept 53 = .ok (.sipush 128, 3) := by decide +kernel
theorem dX0_accept_56 : decode cX0_accept 56 = .ok (.if_icmp .lt 19, 3) := by decide +kernel
theorem dX0_accept_59 : decode cX0_accept 59 = .ok (.aload_n 0, 1) := by decide +kernel
theorem dX0_accept_60 : decode cX0_accept 60 = .ok (.getfield 42, 3) := by decide +kernel
theorem dX0_accept_63 : decode cX0_accept 63 = .ok (.iconst 5, 1) := by decide +kernel
theorem dX0_accept_64 : decode cX0_accept 64 = .ok (.if_icmp .ne 9, 3) := by decide +kernel
theorem dX0_accept_67 : decode cX0_accept 67 = .ok (.sipush 129, 3) := by decide +kernel
theorem dX0_accept_70 : decode cX0_accept 70 = .ok (.goto 4, 3) := by decide +kernel
theorem dX0_accept_73 : decode cX0_accept 73 = .ok (.iconst 1, 1) := by decide +kernel
theorem dX0_accept_74 : decode cX0_accept 74 = .ok (.ireturn, 1) := by decide +kernel
theorem dX0_accept_75 : decode cX0_accept 75 = .ok (.aload_n 0, 1) := by decide +kernel
theorem dX0_accept_76 : decode cX0_accept 76 = .ok (.invokevirtual 48, 3) := by decide +kernel
theorem dX0_accept_79 : decode cX0_accept 79 = .ok (.istore_n 2, 1) := by decide +kernel
theorem dX0_accept_80 : decode cX0_accept 80 = .ok (.iload_n 2, 1) := by decide +kernel
theorem dX0_accept_81 : decode cX0_accept 81 = .ok (.sipush 400, 3) := by decide +kernel
theorem dX0_accept_84 : decode cX0_accept 84 = .ok (.if_icmp .le 7, 3) := by decide +kernel
theorem dX0_accept_87 : decode cX0_accept 87 = .ok (.sipush 149, 3) := by decide +kernel
theorem dX0_accept_90 : decode cX0_accept 90 = .ok (.ireturn, 1) := by decide +kernel
theorem dX0_accept_91 : decode cX0_accept 91 = .ok (.aload_n 0, 1) := by decide +kernel
theorem dX0_accept_92 : decode cX0_accept 92 = .ok (.aload_n 0, 1) := by decide +kernel
theorem dX0_accept_93 : decode cX0_accept 93 = .ok (.getfield 42, 3) := by decide +kernel
theorem dX0_accept_96 : decode cX0_accept 96 = .ok (.putfield 52, 3) := by decide +kernel
theorem dX0_accept_99 : decode cX0_accept 99 = .ok (.aload_n 0, 1) := by decide +kernel
theorem dX0_accept_100 : decode cX0_accept 100 = .ok (.aload_n 0, 1) := by decide +kernel
theorem dX0_accept_101 : decode cX0_accept 101 = .ok (.getfield 42, 3) := by decide +kernel
theorem dX0_accept_104 : decode cX0_accept 104 = .ok (.iload_n 2, 1) := by decide +kernel
theorem dX0_accept_105 : decode cX0_accept 105 = .ok (.iadd, 1) := by decide +kernel
theorem dX0_accept_106 : decode cX0_accept 106 = .ok (.putfield 45, 3) := by decide +kernel
theorem dX0_accept_109 : decode cX0_accept 109 = .ok (.aload_n 0, 1) := by decide +kernel
theorem dX0_accept_110 : decode cX0_accept 110 = .ok (.getfield 42, 3) := by decide +kernel
theorem dX0_accept_113 : decode cX0_accept 113 = .ok (.aload_n 0, 1) := by decide +kernel
theorem dX0_accept_114 : decode cX0_accept 114 = .ok (.getfield 45, 3) := by decide +kernel
theorem dX0_accept_117 : decode cX0_accept 117 = .ok (.if_icmp .ge 5, 3) := by decide +kernel
theorem dX0_accept_120 : decode cX0_accept 120 = .ok (.iconst 1, 1) := by decide +kernel
theorem dX0_accept_121 : decode cX0_accept 121 = .ok (.ireturn, 1) := by decide +kernel
theorem dX0_accept_122 : decode cX0_accept 122 = .ok (.aload_n 0, 1) := by decide +kernel
theorem dX0_accept_123 : decode cX0_accept 123 = .ok (.iconst 0, 1) := by decide +kernel
theorem dX0_accept_124 : decode cX0_accept 124 = .ok (.putfield 42, 3) := by decide +kernel
theorem dX0_accept_127 : decode cX0_accept 127 = .ok (.iconst 2, 1) := by decide +kernel
theorem dX0_accept_128 : decode cX0_accept 128 = .ok (.ireturn, 1) := by decide +kernel
theorem dX0_following_0 : decode cX0_following 0 = .ok (.iconst 0, 1) := by decide +kernel
theorem dX0_following_1 : decode cX0_following 1 = .ok (.istore_n 1, 1) := by decide +kernel
theorem dX0_following_2 : decode cX0_following 2 = .ok (.iconst 1, 1) := by decide +kernel
theorem dX0_following_3 : decode cX0_following 3 = .ok (.istore_n 2, 1) := by decide +kernel
theorem dX0_following_4 : decode cX0_following 4 = .ok (.iload_n 2, 1) := by decide +kernel
theorem dX0_following_5 : decode cX0_following 5 = .ok (.aload_n 0, 1) := by decide +kernel
theorem dX0_following_6 : decode cX0_following 6 = .ok (.getfield 42, 3) := by decide +kernel
theorem dX0_following_9 : decode cX0_following 9 = .ok (.if_icmp .ge 33, 3) := by decide +kernel
theorem dX0_following_12 : decode cX0_following 12 = .ok (.iload_n 2, 1) := by decide +kernel
theorem dX0_following_13 : decode cX0_following 13 = .ok (.iconst 5, 1) := by decide +kernel
theorem dX0_following_14 : decode cX0_following 14 = .ok (.if_icmp .ge 28, 3) := by decide +kernel
theorem dX0_following_17 : decode cX0_following 17 = .ok (.iload_n 1, 1) := by decide +kernel
theorem dX0_following_18 : decode cX0_following 18 = .ok (.aload_n 0, 1) := by decide +kernel
theorem dX0_following_19 : decode cX0_following 19 = .ok (.getfield 15, 3) := by decide +kernel
theorem dX0_following_22 : decode cX0_following 22 = .ok (.iload_n 2, 1) := by decide +kernel
theorem dX0_following_23 : decode cX0_following 23 = .ok (.iaload, 1) := by decide +kernel
theorem dX0_following_24 : decode cX0_following 24 = .ok (.bipush 127, 2) := by decide +kernel
theorem dX0_following_26 : decode cX0_following 26 = .ok (.iand, 1) := by decide +kernel
theorem dX0_following_27 : decode cX0_following 27 = .ok (.bipush 7, 2) := by decide +kernel
theorem dX0_following_29 : decode cX0_following 29 = .ok (.iload_n 2, 1) := by decide +kernel
theorem dX0_following_30 : decode cX0_following 30 = .ok (.iconst 1, 1) := by decide +kernel
theorem dX0_following_31 : decode cX0_following 31 = .ok (.isub, 1) := by decide +kernel
theorem dX0_following_32 : decode cX0_following 32 = .ok (.imul, 1) := by decide +kernel
theorem dX0_following_33 : decode cX0_following 33 = .ok (.ishl, 1) := by decide +kernel
theorem dX0_following_34 : decode cX0_following 34 = .ok (.ior, 1) := by decide +kernel
theorem dX0_following_35 : decode cX0_following 35 = .ok (.istore_n 1, 1) := by decide +kernel
theorem dX0_following_36 : decode cX0_following 36 = .ok (.iinc 2 1, 3) := by decide +kernel
theorem dX0_following_39 : decode cX0_following 39 = .ok (.goto (-35), 3) := by decide +kernel
theorem dX0_following_42 : decode cX0_following 42 = .ok (.iload_n 1, 1) := by decide +kernel
theorem dX0_following_43 : decode cX0_following 43 = .ok (.ireturn, 1) := by decide +kernel
theorem dX0_put_0 : decode cX0_put 0 = .ok (.aload_n 1, 1) := by decide +kernel
theorem dX0_put_1 : decode cX0_put 1 = .ok (.aload_n 1, 1) := by decide +kernel
theorem dX0_put_2 : decode cX0_put 2 = .ok (.getfield 55, 3) := by decide +kernel
theorem dX0_put_5 : decode cX0_put 5 = .ok (.invokevirtual 60, 3) := by decide +kernel
theorem dX0_put_8 : decode cX0_put 8 = .ok (.istore_n 2, 1) := by decide +kernel
theorem dX0_put_9 : decode cX0_put 9 = .ok (.aload_n 0, 1) := by decide +kernel
theorem dX0_put_10 : decode cX0_put 10 = .ok (.getfield 39, 3) := by decide +kernel
theorem dX0_put_13 : decode cX0_put 13 = .ok (.ifCond .ne 22, 3) := by decide +kernel
theorem dX0_put_16 : decode cX0_put 16 = .ok (.aload_n 0, 1) := by decide +kernel
theorem dX0_put_17 : decode cX0_put 17 = .ok (.getfield 32, 3) := by decide +kernel
theorem dX0_put_20 : decode cX0_put 20 = .ok (.iconst 1, 1) := by decide +kernel
theorem dX0_put_21 : decode cX0_put 21 = .ok (.iadd, 1) := by decide +kernel
theorem dX0_put_22 : decode cX0_put 22 = .ok (.iload_n 2, 1) := by decide +kernel
theorem dX0_put_23 : decode cX0_put 23 = .ok (.iadd, 1) := by decide +kernel
theorem dX0_put_24 : decode cX0_put 24 = .ok (.aload_n 1, 1) := by decide +kernel
theorem dX0_put_25 : decode cX0_put 25 = .ok (.getfield 55, 3) := by decide +kernel
theorem dX0_put_28 : decode cX0_put 28 = .ok (.iadd, 1) := by decide +kernel
theorem dX0_put_29 : decode cX0_put 29 = .ok (.sipush 2000, 3) := by decide +kernel
theorem dX0_put_32 : decode cX0_put 32 = .ok (.if_icmp .le 9, 3) := by decide +kernel
theorem dX0_put_35 : decode cX0_put 35 = .ok (.aload_n 0, 1) := by decide +kernel
theorem dX0_put_36 : decode cX0_put 36 = .ok (.iconst 1, 1) := by decide +kernel
theorem dX0_put_37 : decode cX0_put 37 = .ok (.putfield 39, 3) := by decide +kernel
theorem dX0_put_40 : decode cX0_put 40 = .ok (.return_, 1) := by decide +kernel
theorem dX0_put_41 : decode cX0_put 41 = .ok (.aload_n 0, 1) := by decide +kernel
theorem dX0_put_42 : decode cX0_put 42 = .ok (.getfield 9, 3) := by decide +kernel
theorem dX0_put_45 : decode cX0_put 45 = .ok (.aload_n 0, 1) := by decide +kernel
theorem dX0_put_46 : decode cX0_put 46 = .ok (.getfield 32, 3) := by decide +kernel
theorem dX0_put_49 : decode cX0_put 49 = .ok (.aload_n 1, 1) := by decide +kernel
theorem dX0_put_50 : decode cX0_put 50 = .ok (.getfield 64, 3) := by decide +kernel
theorem dX0_put_53 : decode cX0_put 53 = .ok (.iastore, 1) := by decide +kernel
theorem dX0_put_54 : decode cX0_put 54 = .ok (.aload_n 1, 1) := by decide +kernel
theorem dX0_put_55 : decode cX0_put 55 = .ok (.getfield 55, 3) := by decide +kernel
theorem dX0_put_58 : decode cX0_put 58 = .ok (.istore_n 3, 1) := by decide +kernel
theorem dX0_put_59 : decode cX0_put 59 = .ok (.iconst 1, 1) := by decide +kernel
theorem dX0_put_60 : decode cX0_put 60 = .ok (.istore 4, 2) := by decide +kernel
theorem dX0_put_62 : decode cX0_put 62 = .ok (.iload 4, 2) := by decide +kernel
theorem dX0_put_64 : decode cX0_put 64 = .ok (.iload_n 2, 1) := by decide +kernel
theorem dX0_put_65 : decode cX0_put 65 = .ok (.if_icmp .gt 44, 3) := by decide +kernel
theorem dX0_put_68 : decode cX0_put 68 = .ok (.aload_n 0, 1) := by decide +kernel
theorem dX0_put_69 : decode cX0_put 69 = .ok (.getfield 9, 3) := by decide +kernel
theorem dX0_put_72 : decode cX0_put 72 = .ok (.aload_n 0, 1) := by decide +kernel
theorem dX0_put_73 : decode cX0_put 73 = .ok (.getfield 32, 3) := by decide +kernel
theorem dX0_put_76 : decode cX0_put 76 = .ok (.iload 4, 2) := by decide +kernel
theorem dX0_put_78 : decode cX0_put 78 = .ok (.iadd, 1) := by decide +kernel
theorem dX0_put_79 : decode cX0_put 79 = .ok (.iload 4, 2) := by decide +kernel
theorem dX0_put_81 : decode cX0_put 81 = .ok (.iload_n 2, 1) := by decide +kernel
theorem dX0_put_82 : decode cX0_put 82 = .ok (.if_icmp .ge 14, 3) := by decide +kernel
theorem dX0_put_85 : decode cX0_put 85 = .ok (.iload_n 3, 1) := by decide +kernel
theorem dX0_put_86 : decode cX0_put 86 = .ok (.bipush 127, 2) := by decide +kernel
theorem dX0_put_88 : decode cX0_put 88 = .ok (.iand, 1) := by decide +kernel
theorem dX0_put_89 : decode cX0_put 89 = .ok (.sipush 128, 3) := by decide +kernel
theorem dX0_put_92 : decode cX0_put 92 = .ok (.ior, 1) := by decide +kernel
theorem dX0_put_93 : decode cX0_put 93 = .ok (.goto 4, 3) := by decide +kernel
theorem dX0_put_96 : decode cX0_put 96 = .ok (.iload_n 3, 1) := by decide +kernel
theorem dX0_put_97 : decode cX0_put 97 = .ok (.iastore, 1) := by decide +kernel
theorem dX0_put_98 : decode cX0_put 98 = .ok (.iload_n 3, 1) := by decide +kernel
theorem dX0_put_99 : decode cX0_put 99 = .ok (.bipush 7, 2) := by decide +kernel
theorem dX0_put_101 : decode cX0_put 101 = .ok (.ishr, 1) := by decide +kernel
theorem dX0_put_102 : decode cX0_put 102 = .ok (.istore_n 3, 1) := by decide +kernel
theorem dX0_put_103 : decode cX0_put 103 = .ok (.iinc 4 1, 3) := by decide +kernel
theorem dX0_put_106 : decode cX0_put 106 = .ok (.goto (-44), 3) := by decide +kernel
theorem dX0_put_109 : decode cX0_put 109 = .ok (.aload_n 1, 1) := by decide +kernel
theorem dX0_put_110 : decode cX0_put 110 = .ok (.getfield 67, 3) := by decide +kernel
theorem dX0_put_113 : decode cX0_put 113 = .ok (.iconst 0, 1) := by decide +kernel
theorem dX0_put_114 : decode cX0_put 114 = .ok (.aload_n 0, 1) := by decide +kernel
theorem dX0_put_115 : decode cX0_put 115 = .ok (.getfield 9, 3) := by decide +kernel
theorem dX0_put_118 : decode cX0_put 118 = .ok (.aload_n 0, 1) := by decide +kernel
theorem dX0_put_119 : decode cX0_put 119 = .ok (.getfield 32, 3) := by decide +kernel
theorem dX0_put_122 : decode cX0_put 122 = .ok (.iconst 1, 1) := by decide +kernel
theorem dX0_put_123 : decode cX0_put 123 = .ok (.iadd, 1) := by decide +kernel
theorem dX0_put_124 : decode cX0_put 124 = .ok (.iload_n 2, 1) := by decide +kernel
theorem dX0_put_125 : decode cX0_put 125 = .ok (.iadd, 1) := by decide +kernel
theorem dX0_put_126 : decode cX0_put 126 = .ok (.aload_n 1, 1) := by decide +kernel
theorem dX0_put_127 : decode cX0_put 127 = .ok (.getfield 55, 3) := by decide +kernel
theorem dX0_put_130 : decode cX0_put 130 = .ok (.invokestatic 70, 3) := by decide +kernel
theorem dX0_put_133 : decode cX0_put 133 = .ok (.aload_n 0, 1) := by decide +kernel
theorem dX0_put_134 : decode cX0_put 134 = .ok (.dup, 1) := by decide +kernel
theorem dX0_put_135 : decode cX0_put 135 = .ok (.getfield 32, 3) := by decide +kernel
theorem dX0_put_138 : decode cX0_put 138 = .ok (.iconst 1, 1) := by decide +kernel
theorem dX0_put_139 : decode cX0_put 139 = .ok (.iload_n 2, 1) := by decide +kernel
theorem dX0_put_140 : decode cX0_put 140 = .ok (.iadd, 1) := by decide +kernel
theorem dX0_put_141 : decode cX0_put 141 = .ok (.aload_n 1, 1) := by decide +kernel
theorem dX0_put_142 : decode cX0_put 142 = .ok (.getfield 55, 3) := by decide +kernel
theorem dX0_put_145 : decode cX0_put 145 = .ok (.iadd, 1) := by decide +kernel
theorem dX0_put_146 : decode cX0_put 146 = .ok (.iadd, 1) := by decide +kernel
theorem dX0_put_147 : decode cX0_put 147 = .ok (.putfield 32, 3) := by decide +kernel
theorem dX0_put_150 : decode cX0_put 150 = .ok (.aload_n 0, 1) := by decide +kernel
theorem dX0_put_151 : decode cX0_put 151 = .ok (.dup, 1) := by decide +kernel
theorem dX0_put_152 : decode cX0_put 152 = .ok (.getfield 76, 3) := by decide +kernel
theorem dX0_put_155 : decode cX0_put 155 = .ok (.iconst 1, 1) := by decide +kernel
theorem dX0_put_156 : decode cX0_put 156 = .ok (.iadd, 1) := by decide +kernel
theorem dX0_put_157 : decode cX0_put 157 = .ok (.putfield 76, 3) := by decide +kernel
theorem dX0_put_160 : decode cX0_put 160 = .ok (.return_, 1) := by decide +kernel
theorem dX0_drop_0 : decode cX0_drop 0 = .ok (.aload_n 0, 1) := by decide +kernel
theorem dX0_drop_1 : decode cX0_drop 1 = .ok (.dup, 1) := by decide +kernel
theorem dX0_drop_2 : decode cX0_drop 2 = .ok (.getfield 32, 3) := by decide +kernel
theorem dX0_drop_5 : decode cX0_drop 5 = .ok (.iload_n 1, 1) := by decide +kernel
theorem dX0_drop_6 : decode cX0_drop 6 = .ok (.isub, 1) := by decide +kernel
theorem dX0_drop_7 : decode cX0_drop 7 = .ok (.putfield 32, 3) := by decide +kernel
theorem dX0_drop_10 : decode cX0_drop 10 = .ok (.aload_n 0, 1) := by decide +kernel
theorem dX0_drop_11 : decode cX0_drop 11 = .ok (.getfield 9, 3) := by decide +kernel
theorem dX0_drop_14 : decode cX0_drop 14 = .ok (.iload_n 1, 1) := by decide +kernel
theorem dX0_drop_15 : decode cX0_drop 15 = .ok (.aload_n 0, 1) := by decide +kernel
theorem dX0_drop_16 : decode cX0_drop 16 = .ok (.getfield 9, 3) := by decide +kernel
theorem dX0_drop_19 : decode cX0_drop 19 = .ok (.iconst 0, 1) := by decide +kernel
theorem dX0_drop_20 : decode cX0_drop 20 = .ok (.aload_n 0, 1) := by decide +kernel
theorem dX0_drop_21 : decode cX0_drop 21 = .ok (.getfield 32, 3) := by decide +kernel
theorem dX0_drop_24 : decode cX0_drop 24 = .ok (.invokestatic 70, 3) := by decide +kernel
theorem dX0_drop_27 : decode cX0_drop 27 = .ok (.return_, 1) := by decide +kernel
theorem dX0_resolve_0 : decode cX0_resolve 0 = .ok (.iload_n 2, 1) := by decide +kernel
theorem dX0_resolve_1 : decode cX0_resolve 1 = .ok (.ifCond .le 12, 3) := by decide +kernel
theorem dX0_resolve_4 : decode cX0_resolve 4 = .ok (.iload_n 2, 1) := by decide +kernel
theorem dX0_resolve_5 : decode cX0_resolve 5 = .ok (.iconst 4, 1) := by decide +kernel
theorem dX0_resolve_6 : decode cX0_resolve 6 = .ok (.if_icmp .gt 7, 3) := by decide +kernel
theorem dX0_resolve_9 : decode cX0_resolve 9 = .ok (.iconst 1, 1) := by decide +kernel
theorem dX0_resolve_10 : decode cX0_resolve 10 = .ok (.goto 4, 3) := by decide +kernel
theorem dX0_resolve_13 : decode cX0_resolve 13 = .ok (.iconst 0, 1) := by decide +kernel
theorem dX0_resolve_14 : decode cX0_resolve 14 = .ok (.istore_n 3, 1) := by decide +kernel
theorem dX0_resolve_15 : decode cX0_resolve 15 = .ok (.aload_n 1, 1) := by decide +kernel
theorem dX0_resolve_16 : decode cX0_resolve 16 = .ok (.invokevirtual 79, 3) := by decide +kernel
theorem dX0_resolve_19 : decode cX0_resolve 19 = .ok (.ifCond .ne 18, 3) := by decide +kernel
theorem dX0_resolve_22 : decode cX0_resolve 22 = .ok (.iload_n 3, 1) := by decide +kernel
theorem dX0_resolve_23 : decode cX0_resolve 23 = .ok (.ifCond .eq 12, 3) := by decide +kernel
theorem dX0_resolve_26 : decode cX0_resolve 26 = .ok (.aload_n 0, 1) := by decide +kernel
theorem dX0_resolve_27 : decode cX0_resolve 27 = .ok (.getfield 20, 3) := by decide +kernel
theorem dX0_resolve_30 : decode cX0_resolve 30 = .ok (.iload_n 2, 1) := by decide +kernel
theorem dX0_resolve_31 : decode cX0_resolve 31 = .ok (.aaload, 1) := by decide +kernel
theorem dX0_resolve_32 : decode cX0_resolve 32 = .ok (.goto 4, 3) := by decide +kernel
theorem dX0_resolve_35 : decode cX0_resolve 35 = .ok (.aconst_null, 1) := by decide +kernel
theorem dX0_resolve_36 : decode cX0_resolve 36 = .ok (.areturn, 1) := by decide +kernel
theorem dX0_resolve_37 : decode cX0_resolve 37 = .ok (.iload_n 3, 1) := by decide +kernel
theorem dX0_resolve_38 : decode cX0_resolve 38 = .ok (.ifCond .eq 10, 3) := by decide +kernel
theorem dX0_resolve_41 : decode cX0_resolve 41 = .ok (.aload_n 0, 1) := by decide +kernel
theorem dX0_resolve_42 : decode cX0_resolve 42 = .ok (.getfield 20, 3) := by decide +kernel
theorem dX0_resolve_45 : decode cX0_resolve 45 = .ok (.iload_n 2, 1) := by decide +kernel
theorem dX0_resolve_46 : decode cX0_resolve 46 = .ok (.aload_n 1, 1) := by decide +kernel
theorem dX0_resolve_47 : decode cX0_resolve 47 = .ok (.aastore, 1) := by decide +kernel
theorem dX0_resolve_48 : decode cX0_resolve 48 = .ok (.aload_n 1, 1) := by decide +kernel
theorem dX0_resolve_49 : decode cX0_resolve 49 = .ok (.areturn, 1) := by decide +kernel
theorem dX0_quietUntil_0 : decode cX0_quietUntil 0 = .ok (.aload_n 0, 1) := by decide +kernel
theorem dX0_quietUntil_1 : decode cX0_quietUntil 1 = .ok (.getfield 35, 3) := by decide +kernel
theorem dX0_quietUntil_4 : decode cX0_quietUntil 4 = .ok (.ifnull 13, 3) := by decide +kernel
theorem dX0_quietUntil_7 : decode cX0_quietUntil 7 = .ok (.aload_n 0, 1) := by decide +kernel
theorem dX0_quietUntil_8 : decode cX0_quietUntil 8 = .ok (.getfield 35, 3) := by decide +kernel
theorem dX0_quietUntil_11 : decode cX0_quietUntil 11 = .ok (.getfield 81, 3) := by decide +kernel
theorem dX0_quietUntil_14 : decode cX0_quietUntil 14 = .ok (.ifCond .ne 7, 3) := by decide +kernel
theorem dX0_quietUntil_17 : decode cX0_quietUntil 17 = .ok (.ldc2_w 86, 3) := by decide +kernel
theorem dX0_quietUntil_20 : decode cX0_quietUntil 20 = .ok (.lreturn, 1) := by decide +kernel
theorem dX0_quietUntil_21 : decode cX0_quietUntil 21 = .ok (.aload_n 0, 1) := by decide +kernel
theorem dX0_quietUntil_22 : decode cX0_quietUntil 22 = .ok (.getfield 88, 3) := by decide +kernel
theorem dX0_quietUntil_25 : decode cX0_quietUntil 25 = .ok (.i2l, 1) := by decide +kernel
theorem dX0_quietUntil_26 : decode cX0_quietUntil 26 = .ok (.aload_n 0, 1) := by decide +kernel
theorem dX0_quietUntil_27 : decode cX0_quietUntil 27 = .ok (.getfield 35, 3) := by decide +kernel
theorem dX0_quietUntil_30 : decode cX0_quietUntil 30 = .ok (.getfield 81, 3) := by decide +kernel
theorem dX0_quietUntil_33 : decode cX0_quietUntil 33 = .ok (.i2l, 1) := by decide +kernel
theorem dX0_quietUntil_34 : decode cX0_quietUntil 34 = .ok (.ldc2_w 91, 3) := by decide +kernel
theorem dX0_quietUntil_37 : decode cX0_quietUntil 37 = .ok (.lmul, 1) := by decide +kernel
theorem dX0_quietUntil_38 : decode cX0_quietUntil 38 = .ok (.ldc2_w 93, 3) := by decide +kernel
theorem dX0_quietUntil_41 : decode cX0_quietUntil 41 = .ok (.ldiv, 1) := by decide +kernel
theorem dX0_quietUntil_42 : decode cX0_quietUntil 42 = .ok (.ladd, 1) := by decide +kernel
theorem dX0_quietUntil_43 : decode cX0_quietUntil 43 = .ok (.lreturn, 1) := by decide +kernel
theorem dX1_init_0 : decode cX1_init 0 = .ok (.aload_n 0, 1) := by decide +kernel
theorem dX1_init_1 : decode cX1_init 1 = .ok (.invokespecial 1, 3) := by decide +kernel
theorem dX1_init_4 : decode cX1_init 4 = .ok (.return_, 1) := by decide +kernel
theorem dX1_become_0 : decode cX1_become 0 = .ok (.aload_n 0, 1) := by decide +kernel
theorem dX1_become_1 : decode cX1_become 1 = .ok (.aload_n 1, 1) := by decide +kernel
theorem dX1_become_2 : decode cX1_become 2 = .ok (.putfield 7, 3) := by decide +kernel
theorem dX1_become_5 : decode cX1_become 5 = .ok (.aload_n 0, 1) := by decide +kernel
theorem dX1_become_6 : decode cX1_become 6 = .ok (.iload_n 2, 1) := by decide +kernel
theorem dX1_become_7 : decode cX1_become 7 = .ok (.putfield 13, 3) := by decide +kernel
theorem dX1_become_10 : decode cX1_become 10 = .ok (.aload_n 0, 1) := by decide +kernel
theorem dX1_become_11 : decode cX1_become 11 = .ok (.iload_n 3, 1) := by decide +kernel
theorem dX1_become_12 : decode cX1_become 12 = .ok (.putfield 17, 3) := by decide +kernel
theorem dX1_become_15 : decode cX1_become 15 = .ok (.aload_n 0, 1) := by decide +kernel
theorem dX1_become_16 : decode cX1_become 16 = .ok (.iload 4, 2) := by decide +kernel
theorem dX1_become_18 : decode cX1_become 18 = .ok (.putfield 21, 3) := by decide +kernel
theorem dX1_become_21 : decode cX1_become 21 = .ok (.return_, 1) := by decide +kernel
theorem dX2_init_0 : decode cX2_init 0 = .ok (.aload_n 0, 1) := by decide +kernel
theorem dX2_init_1 : decode cX2_init 1 = .ok (.invokespecial 3, 3) := by decide +kernel
theorem dX2_init_4 : decode cX2_init 4 = .ok (.return_, 1) := by decide +kernel
theorem dX2_read_0 : decode cX2_read 0 = .ok (.aload_n 1, 1) := by decide +kernel
theorem dX2_read_1 : decode cX2_read 1 = .ok (.iload_n 3, 1) := by decide +kernel
theorem dX2_read_2 : decode cX2_read 2 = .ok (.iconst 0, 1) := by decide +kernel
theorem dX2_read_3 : decode cX2_read 3 = .ok (.invokevirtual 9, 3) := by decide +kernel
theorem dX2_read_6 : decode cX2_read 6 = .ok (.aload_n 1, 1) := by decide +kernel
theorem dX2_read_7 : decode cX2_read 7 = .ok (.iconst 1, 1) := by decide +kernel
theorem dX2_read_8 : decode cX2_read 8 = .ok (.invokevirtual 15, 3) := by decide +kernel
theorem dX2_read_11 : decode cX2_read 11 = .ok (.astore 4, 2) := by decide +kernel
theorem dX2_read_13 : decode cX2_read 13 = .ok (.aload 4, 2) := by decide +kernel
theorem dX2_read_15 : decode cX2_read 15 = .ok (.invokevirtual 19, 3) := by decide +kernel
theorem dX2_read_18 : decode cX2_read 18 = .ok (.ldc 25, 2) := by decide +kernel
theorem dX2_read_20 : decode cX2_read 20 = .ok (.invokevirtual 27, 3) := by decide +kernel
theorem dX2_read_23 : decode cX2_read 23 = .ok (.if_icmp .ne 14, 3) := by decide +kernel
theorem dX2_read_26 : decode cX2_read 26 = .ok (.aload 4, 2) := by decide +kernel
theorem dX2_read_28 : decode cX2_read 28 = .ok (.iconst 0, 1) := by decide +kernel
theorem dX2_read_29 : decode cX2_read 29 = .ok (.ldc 25, 2) := by decide +kernel
theorem dX2_read_31 : decode cX2_read 31 = .ok (.invokevirtual 32, 3) := by decide +kernel
theorem dX2_read_34 : decode cX2_read 34 = .ok (.ifCond .ne 10, 3) := by decide +kernel
theorem dX2_read_37 : decode cX2_read 37 = .ok (.aload_n 1, 1) := by decide +kernel
theorem dX2_read_38 : decode cX2_read 38 = .ok (.sipush 132, 3) := by decide +kernel
theorem dX2_read_41 : decode cX2_read 41 = .ok (.invokevirtual 36, 3) := by decide +kernel
theorem dX2_read_44 : decode cX2_read 44 = .ok (.aload_n 1, 1) := by decide +kernel
theorem dX2_read_45 : decode cX2_read 45 = .ok (.invokevirtual 40, 3) := by decide +kernel
theorem dX2_read_48 : decode cX2_read 48 = .ok (.iconst 5, 1) := by decide +kernel
theorem dX2_read_49 : decode cX2_read 49 = .ok (.if_icmp .eq 10, 3) := by decide +kernel
theorem dX2_read_52 : decode cX2_read 52 = .ok (.aload_n 1, 1) := by decide +kernel
theorem dX2_read_53 : decode cX2_read 53 = .ok (.sipush 132, 3) := by decide +kernel
theorem dX2_read_56 : decode cX2_read 56 = .ok (.invokevirtual 36, 3) := by decide +kernel
theorem dX2_read_59 : decode cX2_read 59 = .ok (.aload_n 1, 1) := by decide +kernel
theorem dX2_read_60 : decode cX2_read 60 = .ok (.invokevirtual 40, 3) := by decide +kernel
theorem dX2_read_63 : decode cX2_read 63 = .ok (.istore 5, 2) := by decide +kernel
theorem dX2_read_65 : decode cX2_read 65 = .ok (.aload_n 0, 1) := by decide +kernel
theorem dX2_read_66 : decode cX2_read 66 = .ok (.aload_n 1, 1) := by decide +kernel
theorem dX2_read_67 : decode cX2_read 67 = .ok (.iload 5, 2) := by decide +kernel
theorem dX2_read_69 : decode cX2_read 69 = .ok (.invokevirtual 43, 3) := by decide +kernel
theorem dX2_read_72 : decode cX2_read 72 = .ok (.aload_n 0, 1) := by decide +kernel
theorem dX2_read_73 : decode cX2_read 73 = .ok (.iload 5, 2) := by decide +kernel
theorem dX2_read_75 : decode cX2_read 75 = .ok (.iconst 2, 1) := by decide +kernel
theorem dX2_read_76 : decode cX2_read 76 = .ok (.iand, 1) := by decide +kernel
theorem dX2_read_77 : decode cX2_read 77 = .ok (.ifCond .eq 7, 3) := by decide +kernel
theorem dX2_read_80 : decode cX2_read 80 = .ok (.iconst 1, 1) := by decide +kernel
theorem dX2_read_81 : decode cX2_read 81 = .ok (.goto 4, 3) := by decide +kernel
theorem dX2_read_84 : decode cX2_read 84 = .ok (.iconst 0, 1) := by decide +kernel
theorem dX2_read_85 : decode cX2_read 85 = .ok (.putfield 49, 3) := by decide +kernel
theorem dX2_read_88 : decode cX2_read 88 = .ok (.aload_n 0, 1) := by decide +kernel
theorem dX2_read_89 : decode cX2_read 89 = .ok (.aload_n 1, 1) := by decide +kernel
theorem dX2_read_90 : decode cX2_read 90 = .ok (.invokevirtual 53, 3) := by decide +kernel
theorem dX2_read_93 : decode cX2_read 93 = .ok (.putfield 56, 3) := by decide +kernel
theorem dX2_read_96 : decode cX2_read 96 = .ok (.aload_n 2, 1) := by decide +kernel
theorem dX2_read_97 : decode cX2_read 97 = .ok (.aload_n 1, 1) := by decide +kernel
theorem dX2_read_98 : decode cX2_read 98 = .ok (.ldc2_w 60, 3) := by decide +kernel
theorem dX2_read_101 : decode cX2_read 101 = .ok (.invokevirtual 62, 3) := by decide +kernel
theorem dX2_read_104 : decode cX2_read 104 = .ok (.aload_n 2, 1) := by decide +kernel
theorem dX2_read_105 : decode cX2_read 105 = .ok (.bipush 21, 2) := by decide +kernel
theorem dX2_read_107 : decode cX2_read 107 = .ok (.invokevirtual 68, 3) := by decide +kernel
theorem dX2_read_110 : decode cX2_read 110 = .ok (.istore 6, 2) := by decide +kernel
theorem dX2_read_112 : decode cX2_read 112 = .ok (.aload_n 0, 1) := by decide +kernel
theorem dX2_read_113 : decode cX2_read 113 = .ok (.aload_n 2, 1) := by decide +kernel
theorem dX2_read_114 : decode cX2_read 114 = .ok (.bipush 17, 2) := by decide +kernel
theorem dX2_read_116 : decode cX2_read 116 = .ok (.lconst 0, 1) := by decide +kernel
theorem dX2_read_117 : decode cX2_read 117 = .ok (.invokevirtual 72, 3) := by decide +kernel
theorem dX2_read_120 : decode cX2_read 120 = .ok (.putfield 76, 3) := by decide +kernel
theorem dX2_read_123 : decode cX2_read 123 = .ok (.aload_n 0, 1) := by decide +kernel
theorem dX2_read_124 : decode cX2_read 124 = .ok (.aload_n 2, 1) := by decide +kernel
theorem dX2_read_125 : decode cX2_read 125 = .ok (.bipush 33, 2) := by decide +kernel
theorem dX2_read_127 : decode cX2_read 127 = .ok (.ldc2_w 80, 3) := by decide +kernel
theorem dX2_read_130 : decode cX2_read 130 = .ok (.invokevirtual 72, 3) := by decide +kernel
theorem dX2_read_133 : decode cX2_read 133 = .ok (.l2i, 1) := by decide +kernel
theorem dX2_read_134 : decode cX2_read 134 = .ok (.putfield 82, 3) := by decide +kernel
theorem dX2_read_137 : decode cX2_read 137 = .ok (.aload_n 0, 1) := by decide +kernel
theorem dX2_read_138 : decode cX2_read 138 = .ok (.aload_n 2, 1) := by decide +kernel
theorem dX2_read_139 : decode cX2_read 139 = .ok (.bipush 39, 2) := by decide +kernel
theorem dX2_read_141 : decode cX2_read 141 = .ok (.ldc2_w 85, 3) := by decide +kernel
theorem dX2_read_144 : decode cX2_read 144 = .ok (.invokevirtual 72, 3) := by decide +kernel
theorem dX2_read_147 : decode cX2_read 147 = .ok (.putfield 87, 3) := by decide +kernel
theorem dX2_read_150 : decode cX2_read 150 = .ok (.aload_n 0, 1) := by decide +kernel
theorem dX2_read_151 : decode cX2_read 151 = .ok (.getfield 82, 3) := by decide +kernel
theorem dX2_read_154 : decode cX2_read 154 = .ok (.ifCond .eq 26, 3) := by decide +kernel
theorem dX2_read_157 : decode cX2_read 157 = .ok (.aload_n 0, 1) := by decide +kernel
theorem dX2_read_158 : decode cX2_read 158 = .ok (.getfield 87, 3) := by decide +kernel
theorem dX2_read_161 : decode cX2_read 161 = .ok (.lconst 0, 1) := by decide +kernel
theorem dX2_read_162 : decode cX2_read 162 = .ok (.lcmp, 1) := by decide +kernel
theorem dX2_read_163 : decode cX2_read 163 = .ok (.ifCond .eq 17, 3) := by decide +kernel
theorem dX2_read_166 : decode cX2_read 166 = .ok (.aload_n 2, 1) := by decide +kernel
theorem dX2_read_167 : decode cX2_read 167 = .ok (.bipush 22, 2) := by decide +kernel
theorem dX2_read_169 : decode cX2_read 169 = .ok (.invokevirtual 68, 3) := by decide +kernel
theorem dX2_read_172 : decode cX2_read 172 = .ok (.ifCond .eq 15, 3) := by decide +kernel
theorem dX2_read_175 : decode cX2_read 175 = .ok (.iload 6, 2) := by decide +kernel
theorem dX2_read_177 : decode cX2_read 177 = .ok (.ifCond .ne 10, 3) := by decide +kernel
theorem dX2_read_180 : decode cX2_read 180 = .ok (.aload_n 1, 1) := by decide +kernel
theorem dX2_read_181 : decode cX2_read 181 = .ok (.sipush 130, 3) := by decide +kernel
theorem dX2_read_184 : decode cX2_read 184 = .ok (.invokevirtual 36, 3) := by decide +kernel
theorem dX2_read_187 : decode cX2_read 187 = .ok (.aload_n 0, 1) := by decide +kernel
theorem dX2_read_188 : decode cX2_read 188 = .ok (.aload_n 1, 1) := by decide +kernel
theorem dX2_read_189 : decode cX2_read 189 = .ok (.iconst 1, 1) := by decide +kernel
theorem dX2_read_190 : decode cX2_read 190 = .ok (.invokevirtual 15, 3) := by decide +kernel
theorem dX2_read_193 : decode cX2_read 193 = .ok (.putfield 90, 3) := by decide +kernel
theorem dX2_read_196 : decode cX2_read 196 = .ok (.aload_n 0, 1) := by decide +kernel
theorem dX2_read_197 : decode cX2_read 197 = .ok (.aconst_null, 1) := by decide +kernel
theorem dX2_read_198 : decode cX2_read 198 = .ok (.putfield 94, 3) := by decide +kernel
theorem dX2_read_201 : decode cX2_read 201 = .ok (.aload_n 0, 1) := by decide +kernel
theorem dX2_read_202 : decode cX2_read 202 = .ok (.lconst 0, 1) := by decide +kernel
theorem dX2_read_203 : decode cX2_read 203 = .ok (.putfield 98, 3) := by decide +kernel
theorem dX2_read_206 : decode cX2_read 206 = .ok (.iload 5, 2) := by decide +kernel
theorem dX2_read_208 : decode cX2_read 208 = .ok (.iconst 4, 1) := by decide +kernel
theorem dX2_read_209 : decode cX2_read 209 = .ok (.iand, 1) := by decide +kernel
theorem dX2_read_210 : decode cX2_read 210 = .ok (.ifCond .eq 11, 3) := by decide +kernel
theorem dX2_read_213 : decode cX2_read 213 = .ok (.aload_n 0, 1) := by decide +kernel
theorem dX2_read_214 : decode cX2_read 214 = .ok (.aload_n 1, 1) := by decide +kernel
theorem dX2_read_215 : decode cX2_read 215 = .ok (.aload_n 2, 1) := by decide +kernel
theorem dX2_read_216 : decode cX2_read 216 = .ok (.iload 5, 2) := by decide +kernel
theorem dX2_read_218 : decode cX2_read 218 = .ok (.invokevirtual 101, 3) := by decide +kernel
theorem dX2_read_221 : decode cX2_read 221 = .ok (.iload 5, 2) := by decide +kernel
theorem dX2_read_223 : decode cX2_read 223 = .ok (.sipush 128, 3) := by decide +kernel
theorem dX2_read_226 : decode cX2_read 226 = .ok (.iand, 1) := by decide +kernel
theorem dX2_read_227 : decode cX2_read 227 = .ok (.ifCond .eq 9, 3) := by decide +kernel
theorem dX2_read_230 : decode cX2_read 230 = .ok (.aload_n 1, 1) := by decide +kernel
theorem dX2_read_231 : decode cX2_read 231 = .ok (.iconst 1, 1) := by decide +kernel
theorem dX2_read_232 : decode cX2_read 232 = .ok (.invokevirtual 15, 3) := by decide +kernel
theorem dX2_read_235 : decode cX2_read 235 = .ok (.pop, 1) := by decide +kernel
theorem dX2_read_236 : decode cX2_read 236 = .ok (.iload 5, 2) := by decide +kernel
theorem dX2_read_238 : decode cX2_read 238 = .ok (.bipush 64, 2) := by decide +kernel
theorem dX2_read_240 : decode cX2_read 240 = .ok (.iand, 1) := by decide +kernel
theorem dX2_read_241 : decode cX2_read 241 = .ok (.ifCond .eq 9, 3) := by decide +kernel
theorem dX2_read_244 : decode cX2_read 244 = .ok (.aload_n 1, 1) := by decide +kernel
theorem dX2_read_245 : decode cX2_read 245 = .ok (.iconst 0, 1) := by decide +kernel
theorem dX2_read_246 : decode cX2_read 246 = .ok (.invokevirtual 15, 3) := by decide +kernel
theorem dX2_read_249 : decode cX2_read 249 = .ok (.pop, 1) := by decide +kernel
theorem dX2_read_250 : decode cX2_read 250 = .ok (.aload_n 1, 1) := by decide +kernel
theorem dX2_read_251 : decode cX2_read 251 = .ok (.invokevirtual 105, 3) := by decide +kernel
theorem dX2_read_254 : decode cX2_read 254 = .ok (.iload 6, 2) := by decide +kernel
theorem dX2_read_256 : decode cX2_read 256 = .ok (.ifCond .eq 10, 3) := by decide +kernel
theorem dX2_read_259 : decode cX2_read 259 = .ok (.aload_n 1, 1) := by decide +kernel
theorem dX2_read_260 : decode cX2_read 260 = .ok (.sipush 140, 3) := by decide +kernel
theorem dX2_read_263 : decode cX2_read 263 = .ok (.invokevirtual 36, 3) := by decide +kernel
theorem dX2_read_266 : decode cX2_read 266 = .ok (.aload_n 0, 1) := by decide +kernel
theorem dX2_read_267 : decode cX2_read 267 = .ok (.getfield 90, 3) := by decide +kernel
theorem dX2_read_270 : decode cX2_read 270 = .ok (.invokevirtual 19, 3) := by decide +kernel
theorem dX2_read_273 : decode cX2_read 273 = .ok (.bipush 20, 2) := by decide +kernel
theorem dX2_read_275 : decode cX2_read 275 = .ok (.if_icmp .le 10, 3) := by decide +kernel
theorem dX2_read_278 : decode cX2_read 278 = .ok (.aload_n 1, 1) := by decide +kernel
theorem dX2_read_279 : decode cX2_read 279 = .ok (.sipush 133, 3) := by decide +kernel
theorem dX2_read_282 : decode cX2_read 282 = .ok (.invokevirtual 36, 3) := by decide +kernel
theorem dX2_read_285 : decode cX2_read 285 = .ok (.return_, 1) := by decide +kernel
theorem dX2_checkFlags_0 : decode cX2_checkFlags 0 = .ok (.iload_n 2, 1) := by decide +kernel
theorem dX2_checkFlags_1 : decode cX2_checkFlags 1 = .ok (.iconst 4, 1) := by decide +kernel
theorem dX2_checkFlags_2 : decode cX2_checkFlags 2 = .ok (.iand, 1) := by decide +kernel
theorem dX2_checkFlags_3 : decode cX2_checkFlags 3 = .ok (.ifCond .ne 18, 3) := by decide +kernel
theorem dX2_checkFlags_6 : decode cX2_checkFlags 6 = .ok (.iload_n 2, 1) := by decide +kernel
theorem dX2_checkFlags_7 : decode cX2_checkFlags 7 = .ok (.bipush 56, 2) := by decide +kernel
theorem dX2_checkFlags_9 : decode cX2_checkFlags 9 = .ok (.iand, 1) := by decide +kernel
theorem dX2_checkFlags_10 : decode cX2_checkFlags 10 = .ok (.ifCond .eq 7, 3) := by decide +kernel
theorem dX2_checkFlags_13 : decode cX2_checkFlags 13 = .ok (.iconst 1, 1) := by decide +kernel
theorem dX2_checkFlags_14 : decode cX2_checkFlags 14 = .ok (.goto 21, 3) := by decide +kernel
theorem dX2_checkFlags_17 : decode cX2_checkFlags 17 = .ok (.iconst 0, 1) := by decide +kernel
theorem dX2_checkFlags_18 : decode cX2_checkFlags 18 = .ok (.goto 17, 3) := by decide +kernel
theorem dX2_checkFlags_21 : decode cX2_checkFlags 21 = .ok (.iload_n 2, 1) := by decide +kernel
theorem dX2_checkFlags_22 : decode cX2_checkFlags 22 = .ok (.bipush 24, 2) := by decide +kernel
theorem dX2_checkFlags_24 : decode cX2_checkFlags 24 = .ok (.iand, 1) := by decide +kernel
theorem dX2_checkFlags_25 : decode cX2_checkFlags 25 = .ok (.bipush 24, 2) := by decide +kernel
theorem dX2_checkFlags_27 : decode cX2_checkFlags 27 = .ok (.if_icmp .ne 7, 3) := by decide +kernel
theorem dX2_checkFlags_30 : decode cX2_checkFlags 30 = .ok (.iconst 1, 1) := by decide +kernel
theorem dX2_checkFlags_31 : decode cX2_checkFlags 31 = .ok (.goto 4, 3) := by decide +kernel
theorem dX2_checkFlags_34 : decode cX2_checkFlags 34 = .ok (.iconst 0, 1) := by decide +kernel
theorem dX2_checkFlags_35 : decode cX2_checkFlags 35 = .ok (.istore_n 3, 1) := by decide +kernel
theorem dX2_checkFlags_36 : decode cX2_checkFlags 36 = .ok (.iload_n 2, 1) := by decide +kernel
theorem dX2_checkFlags_37 : decode cX2_checkFlags 37 = .ok (.iconst 1, 1) := by decide +kernel
theorem dX2_checkFlags_38 : decode cX2_checkFlags 38 = .ok (.iand, 1) := by decide +kernel
theorem dX2_checkFlags_39 : decode cX2_checkFlags 39 = .ok (.ifCond .ne 7, 3) := by decide +kernel
theorem dX2_checkFlags_42 : decode cX2_checkFlags 42 = .ok (.iload_n 3, 1) := by decide +kernel
theorem dX2_checkFlags_43 : decode cX2_checkFlags 43 = .ok (.ifCond .eq 10, 3) := by decide +kernel
theorem dX2_checkFlags_46 : decode cX2_checkFlags 46 = .ok (.aload_n 1, 1) := by decide +kernel
theorem dX2_checkFlags_47 : decode cX2_checkFlags 47 = .ok (.sipush 129, 3) := by decide +kernel
theorem dX2_checkFlags_50 : decode cX2_checkFlags 50 = .ok (.invokevirtual 36, 3) := by decide +kernel
theorem dX2_checkFlags_53 : decode cX2_checkFlags 53 = .ok (.return_, 1) := by decide +kernel
theorem dX2_readWill_0 : decode cX2_readWill 0 = .ok (.aload_n 2, 1) := by decide +kernel
theorem dX2_readWill_1 : decode cX2_readWill 1 = .ok (.aload_n 1, 1) := by decide +kernel
theorem dX2_readWill_2 : decode cX2_readWill 2 = .ok (.ldc2_w 108, 3) := by decide +kernel
theorem dX2_readWill_5 : decode cX2_readWill 5 = .ok (.invokevirtual 62, 3) := by decide +kernel
theorem dX2_readWill_8 : decode cX2_readWill 8 = .ok (.aload_n 2, 1) := by decide +kernel
theorem dX2_readWill_9 : decode cX2_readWill 9 = .ok (.aload_n 1, 1) := by decide +kernel
theorem dX2_readWill_10 : decode cX2_readWill 10 = .ok (.invokevirtual 110, 3) := by decide +kernel
theorem dX2_readWill_13 : decode cX2_readWill 13 = .ok (.aload_n 0, 1) := by decide +kernel
theorem dX2_readWill_14 : decode cX2_readWill 14 = .ok (.aload_n 2, 1) := by decide +kernel
theorem dX2_readWill_15 : decode cX2_readWill 15 = .ok (.bipush 24, 2) := by decide +kernel
theorem dX2_readWill_17 : decode cX2_readWill 17 = .ok (.lconst 0, 1) := by decide +kernel
theorem dX2_readWill_18 : decode cX2_readWill 18 = .ok (.invokevirtual 72, 3) := by decide +kernel
theorem dX2_readWill_21 : decode cX2_readWill 21 = .ok (.putfield 98, 3) := by decide +kernel
theorem dX2_readWill_24 : decode cX2_readWill 24 = .ok (.aload_n 1, 1) := by decide +kernel
theorem dX2_readWill_25 : decode cX2_readWill 25 = .ok (.iconst 1, 1) := by decide +kernel
theorem dX2_readWill_26 : decode cX2_readWill 26 = .ok (.invokevirtual 15, 3) := by decide +kernel
theorem dX2_readWill_29 : decode cX2_readWill 29 = .ok (.astore 4, 2) := by decide +kernel
theorem dX2_readWill_31 : decode cX2_readWill 31 = .ok (.aload 4, 2) := by decide +kernel
theorem dX2_readWill_33 : decode cX2_readWill 33 = .ok (.invokevirtual 114, 3) := by decide +kernel
theorem dX2_readWill_36 : decode cX2_readWill 36 = .ok (.ifCond .ne 10, 3) := by decide +kernel
theorem dX2_readWill_39 : decode cX2_readWill 39 = .ok (.aload_n 1, 1) := by decide +kernel
theorem dX2_readWill_40 : decode cX2_readWill 40 = .ok (.sipush 144, 3) := by decide +kernel
theorem dX2_readWill_43 : decode cX2_readWill 43 = .ok (.invokevirtual 36, 3) := by decide +kernel
theorem dX2_readWill_46 : decode cX2_readWill 46 = .ok (.aload_n 1, 1) := by decide +kernel
theorem dX2_readWill_47 : decode cX2_readWill 47 = .ok (.iconst 0, 1) := by decide +kernel
theorem dX2_readWill_48 : decode cX2_readWill 48 = .ok (.invokevirtual 15, 3) := by decide +kernel
theorem dX2_readWill_51 : decode cX2_readWill 51 = .ok (.astore 5, 2) := by decide +kernel
theorem dX2_readWill_53 : decode cX2_readWill 53 = .ok (.aload_n 1, 1) := by decide +kernel
theorem dX2_readWill_54 : decode cX2_readWill 54 = .ok (.getfield 118, 3) := by decide +kernel
theorem dX2_readWill_57 : decode cX2_readWill 57 = .ok (.ifCond .ne 32, 3) := by decide +kernel
theorem dX2_readWill_60 : decode cX2_readWill 60 = .ok (.aload_n 0, 1) := by decide +kernel
theorem dX2_readWill_61 : decode cX2_readWill 61 = .ok (.aload_n 2, 1) := by decide +kernel
theorem dX2_readWill_62 : decode cX2_readWill 62 = .ok (.aload 4, 2) := by decide +kernel
theorem dX2_readWill_64 : decode cX2_readWill 64 = .ok (.aload 5, 2) := by decide +kernel
theorem dX2_readWill_66 : decode cX2_readWill 66 = .ok (.iload_n 3, 1) := by decide +kernel
theorem dX2_readWill_67 : decode cX2_readWill 67 = .ok (.iconst 3, 1) := by decide +kernel
theorem dX2_readWill_68 : decode cX2_readWill 68 = .ok (.ishr, 1) := by decide +kernel
theorem dX2_readWill_69 : decode cX2_readWill 69 = .ok (.iconst 3, 1) := by decide +kernel
theorem dX2_readWill_70 : decode cX2_readWill 70 = .ok (.iand, 1) := by decide +kernel
theorem dX2_readWill_71 : decode cX2_readWill 71 = .ok (.iload_n 3, 1) := by decide +kernel
theorem dX2_readWill_72 : decode cX2_readWill 72 = .ok (.bipush 32, 2) := by decide +kernel
theorem dX2_readWill_74 : decode cX2_readWill 74 = .ok (.iand, 1) := by decide +kernel
theorem dX2_readWill_75 : decode cX2_readWill 75 = .ok (.ifCond .eq 7, 3) := by decide +kernel
theorem dX2_readWill_78 : decode cX2_readWill 78 = .ok (.iconst 1, 1) := by decide +kernel
theorem dX2_readWill_79 : decode cX2_readWill 79 = .ok (.goto 4, 3) := by decide +kernel
theorem dX2_readWill_82 : decode cX2_readWill 82 = .ok (.iconst 0, 1) := by decide +kernel
theorem dX2_readWill_83 : decode cX2_readWill 83 = .ok (.invokevirtual 121, 3) := by decide +kernel
theorem dX2_readWill_86 : decode cX2_readWill 86 = .ok (.putfield 94, 3) := by decide +kernel
theorem dX2_readWill_89 : decode cX2_readWill 89 = .ok (.return_, 1) := by decide +kernel
theorem dX2_applyTo_0 : decode cX2_applyTo 0 = .ok (.aload_n 1, 1) := by decide +kernel
theorem dX2_applyTo_1 : decode cX2_applyTo 1 = .ok (.aload_n 0, 1) := by decide +kernel
theorem dX2_applyTo_2 : decode cX2_applyTo 2 = .ok (.getfield 76, 3) := by decide +kernel
theorem dX2_applyTo_5 : decode cX2_applyTo 5 = .ok (.putfield 125, 3) := by decide +kernel
theorem dX2_applyTo_8 : decode cX2_applyTo 8 = .ok (.aload_n 1, 1) := by decide +kernel
theorem dX2_applyTo_9 : decode cX2_applyTo 9 = .ok (.aload_n 0, 1) := by decide +kernel
theorem dX2_applyTo_10 : decode cX2_applyTo 10 = .ok (.getfield 82, 3) := by decide +kernel
theorem dX2_applyTo_13 : decode cX2_applyTo 13 = .ok (.putfield 128, 3) := by decide +kernel
theorem dX2_applyTo_16 : decode cX2_applyTo 16 = .ok (.aload_n 1, 1) := by decide +kernel
theorem dX2_applyTo_17 : decode cX2_applyTo 17 = .ok (.aload_n 0, 1) := by decide +kernel
theorem dX2_applyTo_18 : decode cX2_applyTo 18 = .ok (.getfield 87, 3) := by decide +kernel
theorem dX2_applyTo_21 : decode cX2_applyTo 21 = .ok (.putfield 129, 3) := by decide +kernel
theorem dX2_applyTo_24 : decode cX2_applyTo 24 = .ok (.aload_n 1, 1) := by decide +kernel
theorem dX2_applyTo_25 : decode cX2_applyTo 25 = .ok (.aload_n 0, 1) := by decide +kernel
theorem dX2_applyTo_26 : decode cX2_applyTo 26 = .ok (.getfield 56, 3) := by decide +kernel
theorem dX2_applyTo_29 : decode cX2_applyTo 29 = .ok (.putfield 130, 3) := by decide +kernel
theorem dX2_applyTo_32 : decode cX2_applyTo 32 = .ok (.aload_n 1, 1) := by decide +kernel
theorem dX2_applyTo_33 : decode cX2_applyTo 33 = .ok (.aload_n 0, 1) := by decide +kernel
theorem dX2_applyTo_34 : decode cX2_applyTo 34 = .ok (.getfield 94, 3) := by decide +kernel
theorem dX2_applyTo_37 : decode cX2_applyTo 37 = .ok (.putfield 131, 3) := by decide +kernel
theorem dX2_applyTo_40 : decode cX2_applyTo 40 = .ok (.aload_n 1, 1) := by decide +kernel
theorem dX2_applyTo_41 : decode cX2_applyTo 41 = .ok (.aload_n 0, 1) := by decide +kernel
theorem dX2_applyTo_42 : decode cX2_applyTo 42 = .ok (.getfield 98, 3) := by decide +kernel
theorem dX2_applyTo_45 : decode cX2_applyTo 45 = .ok (.putfield 132, 3) := by decide +kernel
theorem dX2_applyTo_48 : decode cX2_applyTo 48 = .ok (.return_, 1) := by decide +kernel
theorem dX3_init_0 : decode cX3_init 0 = .ok (.aload_n 0, 1) := by decide +kernel
theorem dX3_init_1 : decode cX3_init 1 = .ok (.invokespecial 3, 3) := by decide +kernel
theorem dX3_init_4 : decode cX3_init 4 = .ok (.aload_n 0, 1) := by decide +kernel
theorem dX3_init_5 : decode cX3_init 5 = .ok (.aload_n 1, 1) := by decide +kernel
theorem dX3_init_6 : decode cX3_init 6 = .ok (.putfield 9, 3) := by decide +kernel
theorem dX3_init_9 : decode cX3_init 9 = .ok (.aload_n 0, 1) := by decide +kernel
theorem dX3_init_10 : decode cX3_init 10 = .ok (.aload_n 2, 1) := by decide +kernel
theorem dX3_init_11 : decode cX3_init 11 = .ok (.putfield 15, 3) := by decide +kernel
theorem dX3_init_14 : decode cX3_init 14 = .ok (.aload_n 0, 1) := by decide +kernel
theorem dX3_init_15 : decode cX3_init 15 = .ok (.iload_n 3, 1) := by decide +kernel
theorem dX3_init_16 : decode cX3_init 16 = .ok (.putfield 18, 3) := by decide +kernel
theorem dX3_init_19 : decode cX3_init 19 = .ok (.aload_n 0, 1) := by decide +kernel
theorem dX3_init_20 : decode cX3_init 20 = .ok (.iload 4, 2) := by decide +kernel
theorem dX3_init_22 : decode cX3_init 22 = .ok (.putfield 22, 3) := by decide +kernel
theorem dX3_init_25 : decode cX3_init 25 = .ok (.return_, 1) := by decide +kernel
theorem dX3_left_0 : decode cX3_left 0 = .ok (.aload_n 0, 1) := by decide +kernel
theorem dX3_left_1 : decode cX3_left 1 = .ok (.getfield 26, 3) := by decide +kernel
theorem dX3_left_4 : decode cX3_left 4 = .ok (.iload_n 1, 1) := by decide +kernel
theorem dX3_left_5 : decode cX3_left 5 = .ok (.aload_n 0, 1) := by decide +kernel
theorem dX3_left_6 : decode cX3_left 6 = .ok (.getfield 30, 3) := by decide +kernel
theorem dX3_left_9 : decode cX3_left 9 = .ok (.isub, 1) := by decide +kernel
theorem dX3_left_10 : decode cX3_left 10 = .ok (.i2l, 1) := by decide +kernel
theorem dX3_left_11 : decode cX3_left 11 = .ok (.lsub, 1) := by decide +kernel
theorem dX3_left_12 : decode cX3_left 12 = .ok (.lstore_n 2, 1) := by decide +kernel
theorem dX3_left_13 : decode cX3_left 13 = .ok (.lload_n 2, 1) := by decide +kernel
theorem dX3_left_14 : decode cX3_left 14 = .ok (.lconst 0, 1) := by decide +kernel
theorem dX3_left_15 : decode cX3_left 15 = .ok (.lcmp, 1) := by decide +kernel
theorem dX3_left_16 : decode cX3_left 16 = .ok (.ifCond .le 7, 3) := by decide +kernel
theorem dX3_left_19 : decode cX3_left 19 = .ok (.lload_n 2, 1) := by decide +kernel
theorem dX3_left_20 : decode cX3_left 20 = .ok (.goto 4, 3) := by decide +kernel
theorem dX3_left_23 : decode cX3_left 23 = .ok (.lconst 0, 1) := by decide +kernel
theorem dX3_left_24 : decode cX3_left 24 = .ok (.lreturn, 1) := by decide +kernel
theorem dX3_isGone_0 : decode cX3_isGone 0 = .ok (.aload_n 0, 1) := by decide +kernel
theorem dX3_isGone_1 : decode cX3_isGone 1 = .ok (.getfield 26, 3) := by decide +kernel
theorem dX3_isGone_4 : decode cX3_isGone 4 = .ok (.ldc2_w 33, 3) := by decide +kernel
theorem dX3_isGone_7 : decode cX3_isGone 7 = .ok (.lcmp, 1) := by decide +kernel
theorem dX3_isGone_8 : decode cX3_isGone 8 = .ok (.ifCond .eq 17, 3) := by decide +kernel
theorem dX3_isGone_11 : decode cX3_isGone 11 = .ok (.aload_n 0, 1) := by decide +kernel
theorem dX3_isGone_12 : decode cX3_isGone 12 = .ok (.iload_n 1, 1) := by decide +kernel
theorem dX3_isGone_13 : decode cX3_isGone 13 = .ok (.invokevirtual 35, 3) := by decide +kernel
theorem dX3_isGone_16 : decode cX3_isGone 16 = .ok (.lconst 0, 1) := by decide +kernel
theorem dX3_isGone_17 : decode cX3_isGone 17 = .ok (.lcmp, 1) := by decide +kernel
theorem dX3_isGone_18 : decode cX3_isGone 18 = .ok (.ifCond .ne 7, 3) := by decide +kernel
theorem dX3_isGone_21 : decode cX3_isGone 21 = .ok (.iconst 1, 1) := by decide +kernel
theorem dX3_isGone_22 : decode cX3_isGone 22 = .ok (.goto 4, 3) := by decide +kernel
theorem dX3_isGone_25 : decode cX3_isGone 25 = .ok (.iconst 0, 1) := by decide +kernel
theorem dX3_isGone_26 : decode cX3_isGone 26 = .ok (.ireturn, 1) := by decide +kernel
theorem dX4_init_0 : decode cX4_init 0 = .ok (.aload_n 0, 1) := by decide +kernel
theorem dX4_init_1 : decode cX4_init 1 = .ok (.invokespecial 3, 3) := by decide +kernel
theorem dX4_init_4 : decode cX4_init 4 = .ok (.aload_n 0, 1) := by decide +kernel
theorem dX4_init_5 : decode cX4_init 5 = .ok (.bipush 40, 2) := by decide +kernel
theorem dX4_init_7 : decode cX4_init 7 = .ok (.newarray .long, 2) := by decide +kernel
theorem dX4_init_9 : decode cX4_init 9 = .ok (.putfield 9, 3) := by decide +kernel
theorem dX4_init_12 : decode cX4_init 12 = .ok (.aload_n 0, 1) := by decide +kernel
theorem dX4_init_13 : decode cX4_init 13 = .ok (.bipush 40, 2) := by decide +kernel
theorem dX4_init_15 : decode cX4_init 15 = .ok (.newarray .int, 2) := by decide +kernel
theorem dX4_init_17 : decode cX4_init 17 = .ok (.putfield 15, 3) := by decide +kernel
theorem dX4_init_20 : decode cX4_init 20 = .ok (.aload_n 0, 1) := by decide +kernel
theorem dX4_init_21 : decode cX4_init 21 = .ok (.bipush 40, 2) := by decide +kernel
theorem dX4_init_23 : decode cX4_init 23 = .ok (.newarray .int, 2) := by decide +kernel
theorem dX4_init_25 : decode cX4_init 25 = .ok (.putfield 19, 3) := by decide +kernel
theorem dX4_init_28 : decode cX4_init 28 = .ok (.aload_n 0, 1) := by decide +kernel
theorem dX4_init_29 : decode cX4_init 29 = .ok (.sipush 400, 3) := by decide +kernel
theorem dX4_init_32 : decode cX4_init 32 = .ok (.newarray .int, 2) := by decide +kernel
theorem dX4_init_34 : decode cX4_init 34 = .ok (.putfield 22, 3) := by decide +kernel
theorem dX4_init_37 : decode cX4_init 37 = .ok (.aload_n 0, 1) := by decide +kernel
theorem dX4_init_38 : decode cX4_init 38 = .ok (.iconst 0, 1) := by decide +kernel
theorem dX4_init_39 : decode cX4_init 39 = .ok (.newarray .int, 2) := by decide +kernel
theorem dX4_init_41 : decode cX4_init 41 = .ok (.putfield 25, 3) := by decide +kernel
theorem dX4_init_44 : decode cX4_init 44 = .ok (.return_, 1) := by decide +kernel
theorem dX4_clear_0 : decode cX4_clear 0 = .ok (.aload_n 0, 1) := by decide +kernel
theorem dX4_clear_1 : decode cX4_clear 1 = .ok (.lconst 0, 1) := by decide +kernel
theorem dX4_clear_2 : decode cX4_clear 2 = .ok (.putfield 28, 3) := by decide +kernel
theorem dX4_clear_5 : decode cX4_clear 5 = .ok (.aload_n 0, 1) := by decide +kernel
theorem dX4_clear_6 : decode cX4_clear 6 = .ok (.iconst 0, 1) := by decide +kernel
theorem dX4_clear_7 : decode cX4_clear 7 = .ok (.putfield 32, 3) := by decide +kernel
theorem dX4_clear_10 : decode cX4_clear 10 = .ok (.aload_n 0, 1) := by decide +kernel
theorem dX4_clear_11 : decode cX4_clear 11 = .ok (.aconst_null, 1) := by decide +kernel
theorem dX4_clear_12 : decode cX4_clear 12 = .ok (.putfield 36, 3) := by decide +kernel
theorem dX4_clear_15 : decode cX4_clear 15 = .ok (.return_, 1) := by decide +kernel
theorem dX4_read_0 : decode cX4_read 0 = .ok (.aload_n 0, 1) := by decide +kernel
theorem dX4_read_1 : decode cX4_read 1 = .ok (.invokevirtual 40, 3) := by decide +kernel
theorem dX4_read_4 : decode cX4_read 4 = .ok (.aload_n 0, 1) := by decide +kernel
theorem dX4_read_5 : decode cX4_read 5 = .ok (.aload_n 1, 1) := by decide +kernel
theorem dX4_read_6 : decode cX4_read 6 = .ok (.getfield 43, 3) := by decide +kernel
theorem dX4_read_9 : decode cX4_read 9 = .ok (.putfield 25, 3) := by decide +kernel
theorem dX4_read_12 : decode cX4_read 12 = .ok (.aload_n 1, 1) := by decide +kernel
theorem dX4_read_13 : decode cX4_read 13 = .ok (.invokevirtual 48, 3) := by decide +kernel
theorem dX4_read_16 : decode cX4_read 16 = .ok (.istore 4, 2) := by decide +kernel
theorem dX4_read_18 : decode cX4_read 18 = .ok (.aload_n 1, 1) := by decide +kernel
theorem dX4_read_19 : decode cX4_read 19 = .ok (.iload 4, 2) := by decide +kernel
theorem dX4_read_21 : decode cX4_read 21 = .ok (.invokevirtual 52, 3) := by decide +kernel
theorem dX4_read_24 : decode cX4_read 24 = .ok (.ifCond .ne 4, 3) := by decide +kernel
theorem dX4_read_27 : decode cX4_read 27 = .ok (.return_, 1) := by decide +kernel
theorem dX4_read_28 : decode cX4_read 28 = .ok (.aload_n 1, 1) := by decide +kernel
theorem dX4_read_29 : decode cX4_read 29 = .ok (.getfield 56, 3) := by decide +kernel
theorem dX4_read_32 : decode cX4_read 32 = .ok (.istore 5, 2) := by decide +kernel
theorem dX4_read_34 : decode cX4_read 34 = .ok (.aload_n 1, 1) := by decide +kernel
theorem dX4_read_35 : decode cX4_read 35 = .ok (.aload_n 1, 1) := by decide +kernel
theorem dX4_read_36 : decode cX4_read 36 = .ok (.getfield 59, 3) := by decide +kernel
theorem dX4_read_39 : decode cX4_read 39 = .ok (.iload 4, 2) := by decide +kernel
theorem dX4_read_41 : decode cX4_read 41 = .ok (.iadd, 1) := by decide +kernel
theorem dX4_read_42 : decode cX4_read 42 = .ok (.putfield 56, 3) := by decide +kernel
theorem dX4_read_45 : decode cX4_read 45 = .ok (.iconst 0, 1) := by decide +kernel
theorem dX4_read_46 : decode cX4_read 46 = .ok (.istore 6, 2) := by decide +kernel
theorem dX4_read_48 : decode cX4_read 48 = .ok (.iload 6, 2) := by decide +kernel
theorem dX4_read_50 : decode cX4_read 50 = .ok (.sipush 400, 3) := by decide +kernel
theorem dX4_read_53 : decode cX4_read 53 = .ok (.if_icmp .ge 134, 3) := by decide +kernel
theorem dX4_read_56 : decode cX4_read 56 = .ok (.aload_n 1, 1) := by decide +kernel
theorem dX4_read_57 : decode cX4_read 57 = .ok (.invokevirtual 62, 3) := by decide +kernel
theorem dX4_read_60 : decode cX4_read 60 = .ok (.ifCond .le 127, 3) := by decide +kernel
theorem dX4_read_63 : decode cX4_read 63 = .ok (.aload_n 1, 1) := by decide +kernel
theorem dX4_read_64 : decode cX4_read 64 = .ok (.getfield 59, 3) := by decide +kernel
theorem dX4_read_67 : decode cX4_read 67 = .ok (.istore 7, 2) := by decide +kernel
theorem dX4_read_69 : decode cX4_read 69 = .ok (.aload_n 1, 1) := by decide +kernel
theorem dX4_read_70 : decode cX4_read 70 = .ok (.invokevirtual 65, 3) := by decide +kernel
theorem dX4_read_73 : decode cX4_read 73 = .ok (.istore 8, 2) := by decide +kernel
theorem dX4_read_75 : decode cX4_read 75 = .ok (.iload 8, 2) := by decide +kernel
theorem dX4_read_77 : decode cX4_read 77 = .ok (.bipush 40, 2) := by decide +kernel
theorem dX4_read_79 : decode cX4_read 79 = .ok (.if_icmp .ge 30, 3) := by decide +kernel
theorem dX4_read_82 : decode cX4_read 82 = .ok (.lload_n 2, 1) := by decide +kernel
theorem dX4_read_83 : decode cX4_read 83 = .ok (.iload 8, 2) := by decide +kernel
theorem dX4_read_85 : decode cX4_read 85 = .ok (.lshr, 1) := by decide +kernel
theorem dX4_read_86 : decode cX4_read 86 = .ok (.lconst 1, 1) := by decide +kernel
theorem dX4_read_87 : decode cX4_read 87 = .ok (.land, 1) := by decide +kernel
theorem dX4_read_88 : decode cX4_read 88 = .ok (.lconst 0, 1) := by decide +kernel
theorem dX4_read_89 : decode cX4_read 89 = .ok (.lcmp, 1) := by decide +kernel
theorem dX4_read_90 : decode cX4_read 90 = .ok (.ifCond .eq 19, 3) := by decide +kernel
theorem dX4_read_93 : decode cX4_read 93 = .ok (.iload 8, 2) := by decide +kernel
theorem dX4_read_95 : decode cX4_read 95 = .ok (.bipush 38, 2) := by decide +kernel
theorem dX4_read_97 : decode cX4_read 97 = .ok (.if_icmp .eq 20, 3) := by decide +kernel
theorem dX4_read_100 : decode cX4_read 100 = .ok (.aload_n 0, 1) := by decide +kernel
theorem dX4_read_101 : decode cX4_read 101 = .ok (.iload 8, 2) := by decide +kernel
theorem dX4_read_103 : decode cX4_read 103 = .ok (.invokevirtual 68, 3) := by decide +kernel
theorem dX4_read_106 : decode cX4_read 106 = .ok (.ifCond .eq 11, 3) := by decide +kernel
theorem dX4_read_109 : decode cX4_read 109 = .ok (.aload_n 1, 1) := by decide +kernel
theorem dX4_read_110 : decode cX4_read 110 = .ok (.sipush 130, 3) := by decide +kernel
theorem dX4_read_113 : decode cX4_read 113 = .ok (.invokevirtual 69, 3) := by decide +kernel
theorem dX4_read_116 : decode cX4_read 116 = .ok (.return_, 1) := by decide +kernel
theorem dX4_read_117 : decode cX4_read 117 = .ok (.aload_n 0, 1) := by decide +kernel
theorem dX4_read_118 : decode cX4_read 118 = .ok (.dup, 1) := by decide +kernel
theorem dX4_read_119 : decode cX4_read 119 = .ok (.getfield 28, 3) := by decide +kernel
theorem dX4_read_122 : decode cX4_read 122 = .ok (.lconst 1, 1) := by decide +kernel
theorem dX4_read_123 : decode cX4_read 123 = .ok (.iload 8, 2) := by decide +kernel
theorem dX4_read_125 : decode cX4_read 125 = .ok (.lshl, 1) := by decide +kernel
theorem dX4_read_126 : decode cX4_read 126 = .ok (.lor, 1) := by decide +kernel
theorem dX4_read_127 : decode cX4_read 127 = .ok (.putfield 28, 3) := by decide +kernel
theorem dX4_read_130 : decode cX4_read 130 = .ok (.aload_n 0, 1) := by decide +kernel
theorem dX4_read_131 : decode cX4_read 131 = .ok (.getfield 15, 3) := by decide +kernel
theorem dX4_read_134 : decode cX4_read 134 = .ok (.iload 8, 2) := by decide +kernel
theorem dX4_read_136 : decode cX4_read 136 = .ok (.iload 7, 2) := by decide +kernel
theorem dX4_read_138 : decode cX4_read 138 = .ok (.iastore, 1) := by decide +kernel
theorem dX4_read_139 : decode cX4_read 139 = .ok (.aload_n 0, 1) := by decide +kernel
theorem dX4_read_140 : decode cX4_read 140 = .ok (.getfield 9, 3) := by decide +kernel
theorem dX4_read_143 : decode cX4_read 143 = .ok (.iload 8, 2) := by decide +kernel
theorem dX4_read_145 : decode cX4_read 145 = .ok (.aload_n 0, 1) := by decide +kernel
theorem dX4_read_146 : decode cX4_read 146 = .ok (.aload_n 1, 1) := by decide +kernel
theorem dX4_read_147 : decode cX4_read 147 = .ok (.iload 8, 2) := by decide +kernel
theorem dX4_read_149 : decode cX4_read 149 = .ok (.invokevirtual 73, 3) := by decide +kernel
theorem dX4_read_152 : decode cX4_read 152 = .ok (.lastore, 1) := by decide +kernel
theorem dX4_read_153 : decode cX4_read 153 = .ok (.aload_n 0, 1) := by decide +kernel
theorem dX4_read_154 : decode cX4_read 154 = .ok (.getfield 19, 3) := by decide +kernel
theorem dX4_read_157 : decode cX4_read 157 = .ok (.iload 8, 2) := by decide +kernel
theorem dX4_read_159 : decode cX4_read 159 = .ok (.aload_n 1, 1) := by decide +kernel
theorem dX4_read_160 : decode cX4_read 160 = .ok (.getfield 59, 3) := by decide +kernel
theorem dX4_read_163 : decode cX4_read 163 = .ok (.iastore, 1) := by decide +kernel
theorem dX4_read_164 : decode cX4_read 164 = .ok (.iload 8, 2) := by decide +kernel
theorem dX4_read_166 : decode cX4_read 166 = .ok (.bipush 38, 2) := by decide +kernel
theorem dX4_read_168 : decode cX4_read 168 = .ok (.if_icmp .ne 13, 3) := by decide +kernel
theorem dX4_read_171 : decode cX4_read 171 = .ok (.aload_n 0, 1) := by decide +kernel
theorem dX4_read_172 : decode cX4_read 172 = .ok (.iload 7, 2) := by decide +kernel
theorem dX4_read_174 : decode cX4_read 174 = .ok (.aload_n 1, 1) := by decide +kernel
theorem dX4_read_175 : decode cX4_read 175 = .ok (.getfield 59, 3) := by decide +kernel
theorem dX4_read_178 : decode cX4_read 178 = .ok (.invokevirtual 77, 3) := by decide +kernel
theorem dX4_read_181 : decode cX4_read 181 = .ok (.iinc 6 1, 3) := by decide +kernel
theorem dX4_read_184 : decode cX4_read 184 = .ok (.goto (-136), 3) := by decide +kernel
theorem dX4_read_187 : decode cX4_read 187 = .ok (.aload_n 1, 1) := by decide +kernel
theorem dX4_read_188 : decode cX4_read 188 = .ok (.iload 5, 2) := by decide +kernel
theorem dX4_read_190 : decode cX4_read 190 = .ok (.putfield 56, 3) := by decide +kernel
theorem dX4_read_193 : decode cX4_read 193 = .ok (.return_, 1) := by decide +kernel
theorem dX4_value_0 : decode cX4_value 0 = .ok (.iload_n 2, 1) := by decide +kernel
theorem dX4_value_1 : decode cX4_value 1 = .ok (.tableswitch 241 1 39 #[171, 191, 241, 241, 241, 241, 241, 208, 219, 241, 196, 241, 241, 241, 241, 241, 191, 241, 241, 241, 241, 219, 171, 191, 171, 241, 241, 241, 241, 241, 241, 241, 202, 202, 202, 241, 241, 227, 191], 171) := by decide +kernel
theorem dX4_value_172 : decode cX4_value 172 = .ok (.aload_n 1, 1) := by decide +kernel
theorem dX4_value_173 : decode cX4_value 173 = .ok (.invokevirtual 65, 3) := by decide +kernel
theorem dX4_value_176 : decode cX4_value 176 = .ok (.istore_n 3, 1) := by decide +kernel
theorem dX4_value_177 : decode cX4_value 177 = .ok (.iload_n 3, 1) := by decide +kernel
theorem dX4_value_178 : decode cX4_value 178 = .ok (.iconst 1, 1) := by decide +kernel
theorem dX4_value_179 : decode cX4_value 179 = .ok (.if_icmp .le 10, 3) := by decide +kernel
theorem dX4_value_182 : decode cX4_value 182 = .ok (.aload_n 1, 1) := by decide +kernel
theorem dX4_value_183 : decode cX4_value 183 = .ok (.sipush 129, 3) := by decide +kernel
theorem dX4_value_186 : decode cX4_value 186 = .ok (.invokevirtual 69, 3) := by decide +kernel
theorem dX4_value_189 : decode cX4_value 189 = .ok (.iload_n 3, 1) := by decide +kernel
theorem dX4_value_190 : decode cX4_value 190 = .ok (.i2l, 1) := by decide +kernel
theorem dX4_value_191 : decode cX4_value 191 = .ok (.lreturn, 1) := by decide +kernel
theorem dX4_value_192 : decode cX4_value 192 = .ok (.aload_n 1, 1) := by decide +kernel
theorem dX4_value_193 : decode cX4_value 193 = .ok (.invokevirtual 81, 3) := by decide +kernel
theorem dX4_value_196 : decode cX4_value 196 = .ok (.lreturn, 1) := by decide +kernel
theorem dX4_value_197 : decode cX4_value 197 = .ok (.aload_n 1, 1) := by decide +kernel
theorem dX4_value_198 : decode cX4_value 198 = .ok (.invokevirtual 48, 3) := by decide +kernel
theorem dX4_value_201 : decode cX4_value 201 = .ok (.i2l, 1) := by decide +kernel
theorem dX4_value_202 : decode cX4_value 202 = .ok (.lreturn, 1) := by decide +kernel
theorem dX4_value_203 : decode cX4_value 203 = .ok (.aload_n 1, 1) := by decide +kernel
theorem dX4_value_204 : decode cX4_value 204 = .ok (.invokevirtual 85, 3) := by decide +kernel
theorem dX4_value_207 : decode cX4_value 207 = .ok (.i2l, 1) := by decide +kernel
theorem dX4_value_208 : decode cX4_value 208 = .ok (.lreturn, 1) := by decide +kernel
theorem dX4_value_209 : decode cX4_value 209 = .ok (.aload_n 0, 1) := by decide +kernel
theorem dX4_value_210 : decode cX4_value 210 = .ok (.aload_n 1, 1) := by decide +kernel
theorem dX4_value_211 : decode cX4_value 211 = .ok (.iconst 1, 1) := by decide +kernel
theorem dX4_value_212 : decode cX4_value 212 = .ok (.invokevirtual 88, 3) := by decide +kernel
theorem dX4_value_215 : decode cX4_value 215 = .ok (.putfield 36, 3) := by decide +kernel
theorem dX4_value_218 : decode cX4_value 218 = .ok (.lconst 0, 1) := by decide +kernel
theorem dX4_value_219 : decode cX4_value 219 = .ok (.lreturn, 1) := by decide +kernel
theorem dX4_value_220 : decode cX4_value 220 = .ok (.aload_n 1, 1) := by decide +kernel
theorem dX4_value_221 : decode cX4_value 221 = .ok (.iconst 0, 1) := by decide +kernel
theorem dX4_value_222 : decode cX4_value 222 = .ok (.invokevirtual 88, 3) := by decide +kernel
theorem dX4_value_225 : decode cX4_value 225 = .ok (.pop, 1) := by decide +kernel
theorem dX4_value_226 : decode cX4_value 226 = .ok (.lconst 0, 1) := by decide +kernel
theorem dX4_value_227 : decode cX4_value 227 = .ok (.lreturn, 1) := by decide +kernel
theorem dX4_value_228 : decode cX4_value 228 = .ok (.aload_n 1, 1) := by decide +kernel
theorem dX4_value_229 : decode cX4_value 229 = .ok (.iconst 1, 1) := by decide +kernel
theorem dX4_value_230 : decode cX4_value 230 = .ok (.invokevirtual 88, 3) := by decide +kernel
theorem dX4_value_233 : decode cX4_value 233 = .ok (.pop, 1) := by decide +kernel
theorem dX4_value_234 : decode cX4_value 234 = .ok (.aload_n 1, 1) := by decide +kernel
theorem dX4_value_235 : decode cX4_value 235 = .ok (.iconst 1, 1) := by decide +kernel
theorem dX4_value_236 : decode cX4_value 236 = .ok (.invokevirtual 88, 3) := by decide +kernel
theorem dX4_value_239 : decode cX4_value 239 = .ok (.pop, 1) := by decide +kernel
theorem dX4_value_240 : decode cX4_value 240 = .ok (.lconst 0, 1) := by decide +kernel
theorem dX4_value_241 : decode cX4_value 241 = .ok (.lreturn, 1) := by decide +kernel
theorem dX4_value_242 : decode cX4_value 242 = .ok (.aload_n 1, 1) := by decide +kernel
theorem dX4_value_243 : decode cX4_value 243 = .ok (.iconst 1, 1) := by decide +kernel
theorem dX4_value_244 : decode cX4_value 244 = .ok (.invokevirtual 88, 3) := by decide +kernel
theorem dX4_value_247 : decode cX4_value 247 = .ok (.pop, 1) := by decide +kernel
theorem dX4_value_248 : decode cX4_value 248 = .ok (.lconst 0, 1) := by decide +kernel
theorem dX4_value_249 : decode cX4_value 249 = .ok (.lreturn, 1) := by decide +kernel
theorem dX4_addUser_0 : decode cX4_addUser 0 = .ok (.iload_n 2, 1) := by decide +kernel
theorem dX4_addUser_1 : decode cX4_addUser 1 = .ok (.iload_n 1, 1) := by decide +kernel
theorem dX4_addUser_2 : decode cX4_addUser 2 = .ok (.isub, 1) := by decide +kernel
theorem dX4_addUser_3 : decode cX4_addUser 3 = .ok (.aload_n 0, 1) := by decide +kernel
theorem dX4_addUser_4 : decode cX4_addUser 4 = .ok (.getfield 22, 3) := by decide +kernel
theorem dX4_addUser_7 : decode cX4_addUser 7 = .ok (.arraylength, 1) := by decide +kernel
theorem dX4_addUser_8 : decode cX4_addUser 8 = .ok (.aload_n 0, 1) := by decide +kernel
theorem dX4_addUser_9 : decode cX4_addUser 9 = .ok (.getfield 32, 3) := by decide +kernel
theorem dX4_addUser_12 : decode cX4_addUser 12 = .ok (.isub, 1) := by decide +kernel
theorem dX4_addUser_13 : decode cX4_addUser 13 = .ok (.invokestatic 92, 3) := by decide +kernel
theorem dX4_addUser_16 : decode cX4_addUser 16 = .ok (.istore_n 3, 1) := by decide +kernel
theorem dX4_addUser_17 : decode cX4_addUser 17 = .ok (.aload_n 0, 1) := by decide +kernel
theorem dX4_addUser_18 : decode cX4_addUser 18 = .ok (.getfield 25, 3) := by decide +kernel
theorem dX4_addUser_21 : decode cX4_addUser 21 = .ok (.iload_n 1, 1) := by decide +kernel
theorem dX4_addUser_22 : decode cX4_addUser 22 = .ok (.aload_n 0, 1) := by decide +kernel
theorem dX4_addUser_23 : decode cX4_addUser 23 = .ok (.getfield 22, 3) := by decide +kernel
theorem dX4_addUser_26 : decode cX4_addUser 26 = .ok (.aload_n 0, 1) := by decide +kernel
theorem dX4_addUser_27 : decode cX4_addUser 27 = .ok (.getfield 32, 3) := by decide +kernel
theorem dX4_addUser_30 : decode cX4_addUser 30 = .ok (.iload_n 3, 1) := by decide +kernel
theorem dX4_addUser_31 : decode cX4_addUser 31 = .ok (.invokestatic 98, 3) := by decide +kernel
theorem dX4_addUser_34 : decode cX4_addUser 34 = .ok (.aload_n 0, 1) := by decide +kernel
theorem dX4_addUser_35 : decode cX4_addUser 35 = .ok (.dup, 1) := by decide +kernel
theorem dX4_addUser_36 : decode cX4_addUser 36 = .ok (.getfield 32, 3) := by decide +kernel
theorem dX4_addUser_39 : decode cX4_addUser 39 = .ok (.iload_n 3, 1) := by decide +kernel
theorem dX4_addUser_40 : decode cX4_addUser 40 = .ok (.iadd, 1) := by decide +kernel
theorem dX4_addUser_41 : decode cX4_addUser 41 = .ok (.putfield 32, 3) := by decide +kernel
theorem dX4_addUser_44 : decode cX4_addUser 44 = .ok (.return_, 1) := by decide +kernel
theorem dX4_has_0 : decode cX4_has 0 = .ok (.aload_n 0, 1) := by decide +kernel
theorem dX4_has_1 : decode cX4_has 1 = .ok (.getfield 28, 3) := by decide +kernel
theorem dX4_has_4 : decode cX4_has 4 = .ok (.iload_n 1, 1) := by decide +kernel
theorem dX4_has_5 : decode cX4_has 5 = .ok (.lshr, 1) := by decide +kernel
theorem dX4_has_6 : decode cX4_has 6 = .ok (.lconst 1, 1) := by decide +kernel
theorem dX4_has_7 : decode cX4_has 7 = .ok (.land, 1) := by decide +kernel
theorem dX4_has_8 : decode cX4_has 8 = .ok (.lconst 1, 1) := by decide +kernel
theorem dX4_has_9 : decode cX4_has 9 = .ok (.lcmp, 1) := by decide +kernel
theorem dX4_has_10 : decode cX4_has 10 = .ok (.ifCond .ne 7, 3) := by decide +kernel
theorem dX4_has_13 : decode cX4_has 13 = .ok (.iconst 1, 1) := by decide +kernel
theorem dX4_has_14 : decode cX4_has 14 = .ok (.goto 4, 3) := by decide +kernel
theorem dX4_has_17 : decode cX4_has 17 = .ok (.iconst 0, 1) := by decide +kernel
theorem dX4_has_18 : decode cX4_has 18 = .ok (.ireturn, 1) := by decide +kernel
theorem dX4_get_0 : decode cX4_get 0 = .ok (.aload_n 0, 1) := by decide +kernel
theorem dX4_get_1 : decode cX4_get 1 = .ok (.iload_n 1, 1) := by decide +kernel
theorem dX4_get_2 : decode cX4_get 2 = .ok (.invokevirtual 68, 3) := by decide +kernel
theorem dX4_get_5 : decode cX4_get 5 = .ok (.ifCond .eq 12, 3) := by decide +kernel
theorem dX4_get_8 : decode cX4_get 8 = .ok (.aload_n 0, 1) := by decide +kernel
theorem dX4_get_9 : decode cX4_get 9 = .ok (.getfield 9, 3) := by decide +kernel
theorem dX4_get_12 : decode cX4_get 12 = .ok (.iload_n 1, 1) := by decide +kernel
theorem dX4_get_13 : decode cX4_get 13 = .ok (.laload, 1) := by decide +kernel
theorem dX4_get_14 : decode cX4_get 14 = .ok (.goto 4, 3) := by decide +kernel
theorem dX4_get_17 : decode cX4_get 17 = .ok (.lload_n 2, 1) := by decide +kernel
theorem dX4_get_18 : decode cX4_get 18 = .ok (.lreturn, 1) := by decide +kernel
theorem dX4_checkResponse_0 : decode cX4_checkResponse 0 = .ok (.aload_n 0, 1) := by decide +kernel
theorem dX4_checkResponse_1 : decode cX4_checkResponse 1 = .ok (.getfield 36, 3) := by decide +kernel
theorem dX4_checkResponse_4 : decode cX4_checkResponse 4 = .ok (.ifnull 20, 3) := by decide +kernel
theorem dX4_checkResponse_7 : decode cX4_checkResponse 7 = .ok (.aload_n 0, 1) := by decide +kernel
theorem dX4_checkResponse_8 : decode cX4_checkResponse 8 = .ok (.getfield 36, 3) := by decide +kernel
theorem dX4_checkResponse_11 : decode cX4_checkResponse 11 = .ok (.invokevirtual 104, 3) := by decide +kernel
theorem dX4_checkResponse_14 : decode cX4_checkResponse 14 = .ok (.ifCond .ne 10, 3) := by decide +kernel
theorem dX4_checkResponse_17 : decode cX4_checkResponse 17 = .ok (.aload_n 1, 1) := by decide +kernel
theorem dX4_checkResponse_18 : decode cX4_checkResponse 18 = .ok (.sipush 130, 3) := by decide +kernel
theorem dX4_checkResponse_21 : decode cX4_checkResponse 21 = .ok (.invokevirtual 69, 3) := by decide +kernel
theorem dX4_checkResponse_24 : decode cX4_checkResponse 24 = .ok (.return_, 1) := by decide +kernel
theorem dX4_raw_0 : decode cX4_raw 0 = .ok (.iconst 0, 1) := by decide +kernel
theorem dX4_raw_1 : decode cX4_raw 1 = .ok (.istore_n 2, 1) := by decide +kernel
theorem dX4_raw_2 : decode cX4_raw 2 = .ok (.iconst 0, 1) := by decide +kernel
theorem dX4_raw_3 : decode cX4_raw 3 = .ok (.istore_n 3, 1) := by decide +kernel
theorem dX4_raw_4 : decode cX4_raw 4 = .ok (.iload_n 3, 1) := by decide +kernel
theorem dX4_raw_5 : decode cX4_raw 5 = .ok (.aload_n 1, 1) := by decide +kernel
theorem dX4_raw_6 : decode cX4_raw 6 = .ok (.arraylength, 1) := by decide +kernel
theorem dX4_raw_7 : decode cX4_raw 7 = .ok (.if_icmp .ge 43, 3) := by decide +kernel
theorem dX4_raw_10 : decode cX4_raw 10 = .ok (.iload_n 2, 1) := by decide +kernel
theorem dX4_raw_11 : decode cX4_raw 11 = .ok (.aload_n 0, 1) := by decide +kernel
theorem dX4_raw_12 : decode cX4_raw 12 = .ok (.aload_n 1, 1) := by decide +kernel
theorem dX4_raw_13 : decode cX4_raw 13 = .ok (.iload_n 3, 1) := by decide +kernel
theorem dX4_raw_14 : decode cX4_raw 14 = .ok (.iaload, 1) := by decide +kernel
theorem dX4_raw_15 : decode cX4_raw 15 = .ok (.invokevirtual 68, 3) := by decide +kernel
theorem dX4_raw_18 : decode cX4_raw 18 = .ok (.ifCond .eq 23, 3) := by decide +kernel
theorem dX4_raw_21 : decode cX4_raw 21 = .ok (.aload_n 0, 1) := by decide +kernel
theorem dX4_raw_22 : decode cX4_raw 22 = .ok (.getfield 19, 3) := by decide +kernel
theorem dX4_raw_25 : decode cX4_raw 25 = .ok (.aload_n 1, 1) := by decide +kernel
theorem dX4_raw_26 : decode cX4_raw 26 = .ok (.iload_n 3, 1) := by decide +kernel
theorem dX4_raw_27 : decode cX4_raw 27 = .ok (.iaload, 1) := by decide +kernel
theorem dX4_raw_28 : decode cX4_raw 28 = .ok (.iaload, 1) := by decide +kernel
theorem dX4_raw_29 : decode cX4_raw 29 = .ok (.aload_n 0, 1) := by decide +kernel
theorem dX4_raw_30 : decode cX4_raw 30 = .ok (.getfield 15, 3) := by decide +kernel
theorem dX4_raw_33 : decode cX4_raw 33 = .ok (.aload_n 1, 1) := by decide +kernel
theorem dX4_raw_34 : decode cX4_raw 34 = .ok (.iload_n 3, 1) := by decide +kernel
theorem dX4_raw_35 : decode cX4_raw 35 = .ok (.iaload, 1) := by decide +kernel
theorem dX4_raw_36 : decode cX4_raw 36 = .ok (.iaload, 1) := by decide +kernel
theorem dX4_raw_37 : decode cX4_raw 37 = .ok (.isub, 1) := by decide +kernel
theorem dX4_raw_38 : decode cX4_raw 38 = .ok (.goto 4, 3) := by decide +kernel
theorem dX4_raw_41 : decode cX4_raw 41 = .ok (.iconst 0, 1) := by decide +kernel
theorem dX4_raw_42 : decode cX4_raw 42 = .ok (.iadd, 1) := by decide +kernel
theorem dX4_raw_43 : decode cX4_raw 43 = .ok (.istore_n 2, 1) := by decide +kernel
theorem dX4_raw_44 : decode cX4_raw 44 = .ok (.iinc 3 1, 3) := by decide +kernel
theorem dX4_raw_47 : decode cX4_raw 47 = .ok (.goto (-43), 3) := by decide +kernel
theorem dX4_raw_50 : decode cX4_raw 50 = .ok (.iload_n 2, 1) := by decide +kernel
theorem dX4_raw_51 : decode cX4_raw 51 = .ok (.newarray .int, 2) := by decide +kernel
theorem dX4_raw_53 : decode cX4_raw 53 = .ok (.astore_n 3, 1) := by decide +kernel
theorem dX4_raw_54 : decode cX4_raw 54 = .ok (.iconst 0, 1) := by decide +kernel
theorem dX4_raw_55 : decode cX4_raw 55 = .ok (.istore 4, 2) := by decide +kernel
theorem dX4_raw_57 : decode cX4_raw 57 = .ok (.iconst 0, 1) := by decide +kernel
theorem dX4_raw_58 : decode cX4_raw 58 = .ok (.istore 5, 2) := by decide +kernel
theorem dX4_raw_60 : decode cX4_raw 60 = .ok (.iload 5, 2) := by decide +kernel
theorem dX4_raw_62 : decode cX4_raw 62 = .ok (.aload_n 1, 1) := by decide +kernel
theorem dX4_raw_63 : decode cX4_raw 63 = .ok (.arraylength, 1) := by decide +kernel
theorem dX4_raw_64 : decode cX4_raw 64 = .ok (.if_icmp .ge 69, 3) := by decide +kernel
theorem dX4_raw_67 : decode cX4_raw 67 = .ok (.aload_n 0, 1) := by decide +kernel
theorem dX4_raw_68 : decode cX4_raw 68 = .ok (.aload_n 1, 1) := by decide +kernel
theorem dX4_raw_69 : decode cX4_raw 69 = .ok (.iload 5, 2) := by decide +kernel
theorem dX4_raw_71 : decode cX4_raw 71 = .ok (.iaload, 1) := by decide +kernel
theorem dX4_raw_72 : decode cX4_raw 72 = .ok (.invokevirtual 68, 3) := by decide +kernel
theorem dX4_raw_75 : decode cX4_raw 75 = .ok (.ifCond .eq 52, 3) := by decide +kernel
theorem dX4_raw_78 : decode cX4_raw 78 = .ok (.aload_n 0, 1) := by decide +kernel
theorem dX4_raw_79 : decode cX4_raw 79 = .ok (.getfield 19, 3) := by decide +kernel
theorem dX4_raw_82 : decode cX4_raw 82 = .ok (.aload_n 1, 1) := by decide +kernel
theorem dX4_raw_83 : decode cX4_raw 83 = .ok (.iload 5, 2) := by decide +kernel
theorem dX4_raw_85 : decode cX4_raw 85 = .ok (.iaload, 1) := by decide +kernel
theorem dX4_raw_86 : decode cX4_raw 86 = .ok (.iaload, 1) := by decide +kernel
theorem dX4_raw_87 : decode cX4_raw 87 = .ok (.aload_n 0, 1) := by decide +kernel
theorem dX4_raw_88 : decode cX4_raw 88 = .ok (.getfield 15, 3) := by decide +kernel
theorem dX4_raw_91 : decode cX4_raw 91 = .ok (.aload_n 1, 1) := by decide +kernel
theorem dX4_raw_92 : decode cX4_raw 92 = .ok (.iload 5, 2) := by decide +kernel
theorem dX4_raw_94 : decode cX4_raw 94 = .ok (.iaload, 1) := by decide +kernel
theorem dX4_raw_95 : decode cX4_raw 95 = .ok (.iaload, 1) := by decide +kernel
theorem dX4_raw_96 : decode cX4_raw 96 = .ok (.isub, 1) := by decide +kernel
theorem dX4_raw_97 : decode cX4_raw 97 = .ok (.istore 6, 2) := by decide +kernel
theorem dX4_raw_99 : decode cX4_raw 99 = .ok (.aload_n 0, 1) := by decide +kernel
theorem dX4_raw_100 : decode cX4_raw 100 = .ok (.getfield 25, 3) := by decide +kernel
theorem dX4_raw_103 : decode cX4_raw 103 = .ok (.aload_n 0, 1) := by decide +kernel
theorem dX4_raw_104 : decode cX4_raw 104 = .ok (.getfield 15, 3) := by decide +kernel
theorem dX4_raw_107 : decode cX4_raw 107 = .ok (.aload_n 1, 1) := by decide +kernel
theorem dX4_raw_108 : decode cX4_raw 108 = .ok (.iload 5, 2) := by decide +kernel
theorem dX4_raw_110 : decode cX4_raw 110 = .ok (.iaload, 1) := by decide +kernel
theorem dX4_raw_111 : decode cX4_raw 111 = .ok (.iaload, 1) := by decide +kernel
theorem dX4_raw_112 : decode cX4_raw 112 = .ok (.aload_n 3, 1) := by decide +kernel
theorem dX4_raw_113 : decode cX4_raw 113 = .ok (.iload 4, 2) := by decide +kernel
theorem dX4_raw_115 : decode cX4_raw 115 = .ok (.iload 6, 2) := by decide +kernel
theorem dX4_raw_117 : decode cX4_raw 117 = .ok (.invokestatic 98, 3) := by decide +kernel
theorem dX4_raw_120 : decode cX4_raw 120 = .ok (.iload 4, 2) := by decide +kernel
theorem dX4_raw_122 : decode cX4_raw 122 = .ok (.iload 6, 2) := by decide +kernel
theorem dX4_raw_124 : decode cX4_raw 124 = .ok (.iadd, 1) := by decide +kernel
theorem dX4_raw_125 : decode cX4_raw 125 = .ok (.istore 4, 2) := by decide +kernel
theorem dX4_raw_127 : decode cX4_raw 127 = .ok (.iinc 5 1, 3) := by decide +kernel
theorem dX4_raw_130 : decode cX4_raw 130 = .ok (.goto (-70), 3) := by decide +kernel
theorem dX4_raw_133 : decode cX4_raw 133 = .ok (.new 105, 3) := by decide +kernel
theorem dX4_raw_136 : decode cX4_raw 136 = .ok (.dup, 1) := by decide +kernel
theorem dX4_raw_137 : decode cX4_raw 137 = .ok (.aload_n 3, 1) := by decide +kernel
theorem dX4_raw_138 : decode cX4_raw 138 = .ok (.invokespecial 110, 3) := by decide +kernel
theorem dX4_raw_141 : decode cX4_raw 141 = .ok (.areturn, 1) := by decide +kernel
theorem dX4_message_0 : decode cX4_message 0 = .ok (.new 113, 3) := by decide +kernel
theorem dX4_message_3 : decode cX4_message 3 = .ok (.dup, 1) := by decide +kernel
theorem dX4_message_4 : decode cX4_message 4 = .ok (.aload_n 1, 1) := by decide +kernel
theorem dX4_message_5 : decode cX4_message 5 = .ok (.aload_n 2, 1) := by decide +kernel
theorem dX4_message_6 : decode cX4_message 6 = .ok (.iload_n 3, 1) := by decide +kernel
theorem dX4_message_7 : decode cX4_message 7 = .ok (.iload 4, 2) := by decide +kernel
theorem dX4_message_9 : decode cX4_message 9 = .ok (.invokespecial 115, 3) := by decide +kernel
theorem dX4_message_12 : decode cX4_message 12 = .ok (.astore 5, 2) := by decide +kernel
theorem dX4_message_14 : decode cX4_message 14 = .ok (.aload 5, 2) := by decide +kernel
theorem dX4_message_16 : decode cX4_message 16 = .ok (.aload_n 0, 1) := by decide +kernel
theorem dX4_message_17 : decode cX4_message 17 = .ok (.getstatic 118, 3) := by decide +kernel
theorem dX4_message_20 : decode cX4_message 20 = .ok (.invokevirtual 121, 3) := by decide +kernel
theorem dX4_message_23 : decode cX4_message 23 = .ok (.putfield 125, 3) := by decide +kernel
theorem dX4_message_26 : decode cX4_message 26 = .ok (.aload 5, 2) := by decide +kernel
theorem dX4_message_28 : decode cX4_message 28 = .ok (.aload_n 0, 1) := by decide +kernel
theorem dX4_message_29 : decode cX4_message 29 = .ok (.getstatic 128, 3) := by decide +kernel
theorem dX4_message_32 : decode cX4_message 32 = .ok (.invokevirtual 121, 3) := by decide +kernel
theorem dX4_message_35 : decode cX4_message 35 = .ok (.putfield 131, 3) := by decide +kernel
theorem dX4_message_38 : decode cX4_message 38 = .ok (.aload 5, 2) := by decide +kernel
theorem dX4_message_40 : decode cX4_message 40 = .ok (.new 105, 3) := by decide +kernel
theorem dX4_message_43 : decode cX4_message 43 = .ok (.dup, 1) := by decide +kernel
theorem dX4_message_44 : decode cX4_message 44 = .ok (.aload_n 0, 1) := by decide +kernel
theorem dX4_message_45 : decode cX4_message 45 = .ok (.getfield 22, 3) := by decide +kernel
theorem dX4_message_48 : decode cX4_message 48 = .ok (.aload_n 0, 1) := by decide +kernel
theorem dX4_message_49 : decode cX4_message 49 = .ok (.getfield 32, 3) := by decide +kernel
theorem dX4_message_52 : decode cX4_message 52 = .ok (.invokestatic 134, 3) := by decide +kernel
theorem dX4_message_55 : decode cX4_message 55 = .ok (.invokespecial 110, 3) := by decide +kernel
theorem dX4_message_58 : decode cX4_message 58 = .ok (.putfield 140, 3) := by decide +kernel
theorem dX4_message_61 : decode cX4_message 61 = .ok (.aload 5, 2) := by decide +kernel
theorem dX4_message_63 : decode cX4_message 63 = .ok (.aload_n 0, 1) := by decide +kernel
theorem dX4_message_64 : decode cX4_message 64 = .ok (.iconst 2, 1) := by decide +kernel
theorem dX4_message_65 : decode cX4_message 65 = .ok (.ldc2_w 142, 3) := by decide +kernel
theorem dX4_message_68 : decode cX4_message 68 = .ok (.invokevirtual 144, 3) := by decide +kernel
theorem dX4_message_71 : decode cX4_message 71 = .ok (.putfield 148, 3) := by decide +kernel
theorem dX4_message_74 : decode cX4_message 74 = .ok (.aload 5, 2) := by decide +kernel
theorem dX4_message_76 : decode cX4_message 76 = .ok (.areturn, 1) := by decide +kernel
theorem dX5_init_0 : decode cX5_init 0 = .ok (.aload_n 0, 1) := by decide +kernel
theorem dX5_init_1 : decode cX5_init 1 = .ok (.invokespecial 3, 3) := by decide +kernel
theorem dX5_init_4 : decode cX5_init 4 = .ok (.aload_n 0, 1) := by decide +kernel
theorem dX5_init_5 : decode cX5_init 5 = .ok (.new 9, 3) := by decide +kernel
theorem dX5_init_8 : decode cX5_init 8 = .ok (.dup, 1) := by decide +kernel
theorem dX5_init_9 : decode cX5_init 9 = .ok (.iconst 0, 1) := by decide +kernel
theorem dX5_init_10 : decode cX5_init 10 = .ok (.newarray .int, 2) := by decide +kernel
theorem dX5_init_12 : decode cX5_init 12 = .ok (.invokespecial 11, 3) := by decide +kernel
theorem dX5_init_15 : decode cX5_init 15 = .ok (.putfield 14, 3) := by decide +kernel
theorem dX5_init_18 : decode cX5_init 18 = .ok (.aload_n 0, 1) := by decide +kernel
theorem dX5_init_19 : decode cX5_init 19 = .ok (.aload_n 0, 1) := by decide +kernel
theorem dX5_init_20 : decode cX5_init 20 = .ok (.getfield 14, 3) := by decide +kernel
theorem dX5_init_23 : decode cX5_init 23 = .ok (.getfield 20, 3) := by decide +kernel
theorem dX5_init_26 : decode cX5_init 26 = .ok (.putfield 24, 3) := by decide +kernel
theorem dX5_init_29 : decode cX5_init 29 = .ok (.return_, 1) := by decide +kernel
theorem dX5_begin_0 : decode cX5_begin 0 = .ok (.aload_n 0, 1) := by decide +kernel
theorem dX5_begin_1 : decode cX5_begin 1 = .ok (.aload_n 1, 1) := by decide +kernel
theorem dX5_begin_2 : decode cX5_begin 2 = .ok (.putfield 24, 3) := by decide +kernel
theorem dX5_begin_5 : decode cX5_begin 5 = .ok (.aload_n 0, 1) := by decide +kernel
theorem dX5_begin_6 : decode cX5_begin 6 = .ok (.iload_n 2, 1) := by decide +kernel
theorem dX5_begin_7 : decode cX5_begin 7 = .ok (.putfield 25, 3) := by decide +kernel
theorem dX5_begin_10 : decode cX5_begin 10 = .ok (.aload_n 0, 1) := by decide +kernel
theorem dX5_begin_11 : decode cX5_begin 11 = .ok (.iload_n 3, 1) := by decide +kernel
theorem dX5_begin_12 : decode cX5_begin 12 = .ok (.aload_n 1, 1) := by decide +kernel
theorem dX5_begin_13 : decode cX5_begin 13 = .ok (.arraylength, 1) := by decide +kernel
theorem dX5_begin_14 : decode cX5_begin 14 = .ok (.invokestatic 29, 3) := by decide +kernel
theorem dX5_begin_17 : decode cX5_begin 17 = .ok (.putfield 35, 3) := by decide +kernel
theorem dX5_begin_20 : decode cX5_begin 20 = .ok (.aload_n 0, 1) := by decide +kernel
theorem dX5_begin_21 : decode cX5_begin 21 = .ok (.iconst 0, 1) := by decide +kernel
theorem dX5_begin_22 : decode cX5_begin 22 = .ok (.putfield 38, 3) := by decide +kernel
theorem dX5_begin_25 : decode cX5_begin 25 = .ok (.return_, 1) := by decide +kernel
theorem dX5_fail_0 : decode cX5_fail 0 = .ok (.aload_n 0, 1) := by decide +kernel
theorem dX5_fail_1 : decode cX5_fail 1 = .ok (.getfield 38, 3) := by decide +kernel
theorem dX5_fail_4 : decode cX5_fail 4 = .ok (.ifCond .ne 8, 3) := by decide +kernel
theorem dX5_fail_7 : decode cX5_fail 7 = .ok (.aload_n 0, 1) := by decide +kernel
theorem dX5_fail_8 : decode cX5_fail 8 = .ok (.iload_n 1, 1) := by decide +kernel
theorem dX5_fail_9 : decode cX5_fail 9 = .ok (.putfield 38, 3) := by decide +kernel
theorem dX5_fail_12 : decode cX5_fail 12 = .ok (.return_, 1) := by decide +kernel
theorem dX5_expect_0 : decode cX5_expect 0 = .ok (.iload_n 1, 1) := by decide +kernel
theorem dX5_expect_1 : decode cX5_expect 1 = .ok (.iload_n 2, 1) := by decide +kernel
theorem dX5_expect_2 : decode cX5_expect 2 = .ok (.if_icmp .eq 10, 3) := by decide +kernel
theorem dX5_expect_5 : decode cX5_expect 5 = .ok (.aload_n 0, 1) := by decide +kernel
theorem dX5_expect_6 : decode cX5_expect 6 = .ok (.sipush 129, 3) := by decide +kernel
theorem dX5_expect_9 : decode cX5_expect 9 = .ok (.invokevirtual 41, 3) := by decide +kernel
theorem dX5_expect_12 : decode cX5_expect 12 = .ok (.return_, 1) := by decide +kernel
theorem dX5_left_0 : decode cX5_left 0 = .ok (.aload_n 0, 1) := by decide +kernel
theorem dX5_left_1 : decode cX5_left 1 = .ok (.getfield 38, 3) := by decide +kernel
theorem dX5_left_4 : decode cX5_left 4 = .ok (.ifCond .ne 15, 3) := by decide +kernel
theorem dX5_left_7 : decode cX5_left 7 = .ok (.aload_n 0, 1) := by decide +kernel
theorem dX5_left_8 : decode cX5_left 8 = .ok (.getfield 35, 3) := by decide +kernel
theorem dX5_left_11 : decode cX5_left 11 = .ok (.aload_n 0, 1) := by decide +kernel
theorem dX5_left_12 : decode cX5_left 12 = .ok (.getfield 25, 3) := by decide +kernel
theorem dX5_left_15 : decode cX5_left 15 = .ok (.isub, 1) := by decide +kernel
theorem dX5_left_16 : decode cX5_left 16 = .ok (.goto 4, 3) := by decide +kernel
theorem dX5_left_19 : decode cX5_left 19 = .ok (.iconst 0, 1) := by decide +kernel
theorem dX5_left_20 : decode cX5_left 20 = .ok (.ireturn, 1) := by decide +kernel
theorem dX5_has_0 : decode cX5_has 0 = .ok (.aload_n 0, 1) := by decide +kernel
theorem dX5_has_1 : decode cX5_has 1 = .ok (.getfield 38, 3) := by decide +kernel
theorem dX5_has_4 : decode cX5_has 4 = .ok (.ifCond .ne 23, 3) := by decide +kernel
theorem dX5_has_7 : decode cX5_has 7 = .ok (.aload_n 0, 1) := by decide +kernel
theorem dX5_has_8 : decode cX5_has 8 = .ok (.getfield 35, 3) := by decide +kernel
theorem dX5_has_11 : decode cX5_has 11 = .ok (.aload_n 0, 1) := by decide +kernel
theorem dX5_has_12 : decode cX5_has 12 = .ok (.getfield 25, 3) := by decide +kernel
theorem dX5_has_15 : decode cX5_has 15 = .ok (.isub, 1) := by decide +kernel
theorem dX5_has_16 : decode cX5_has 16 = .ok (.iload_n 1, 1) := by decide +kernel
theorem dX5_has_17 : decode cX5_has 17 = .ok (.if_icmp .ge 10, 3) := by decide +kernel
theorem dX5_has_20 : decode cX5_has 20 = .ok (.aload_n 0, 1) := by decide +kernel
theorem dX5_has_21 : decode cX5_has 21 = .ok (.sipush 129, 3) := by decide +kernel
theorem dX5_has_24 : decode cX5_has 24 = .ok (.putfield 38, 3) := by decide +kernel
theorem dX5_has_27 : decode cX5_has 27 = .ok (.aload_n 0, 1) := by decide +kernel
theorem dX5_has_28 : decode cX5_has 28 = .ok (.getfield 38, 3) := by decide +kernel
theorem dX5_has_31 : decode cX5_has 31 = .ok (.ifCond .ne 7, 3) := by decide +kernel
theorem dX5_has_34 : decode cX5_has 34 = .ok (.iconst 1, 1) := by decide +kernel
theorem dX5_has_35 : decode cX5_has 35 = .ok (.goto 4, 3) := by decide +kernel
theorem dX5_has_38 : decode cX5_has 38 = .ok (.iconst 0, 1) := by decide +kernel
theorem dX5_has_39 : decode cX5_has 39 = .ok (.ireturn, 1) := by decide +kernel
theorem dX5_one_0 : decode cX5_one 0 = .ok (.aload_n 0, 1) := by decide +kernel
theorem dX5_one_1 : decode cX5_one 1 = .ok (.iconst 1, 1) := by decide +kernel
theorem dX5_one_2 : decode cX5_one 2 = .ok (.invokevirtual 45, 3) := by decide +kernel
theorem dX5_one_5 : decode cX5_one 5 = .ok (.ifCond .ne 5, 3) := by decide +kernel
theorem dX5_one_8 : decode cX5_one 8 = .ok (.iconst 0, 1) := by decide +kernel
theorem dX5_one_9 : decode cX5_one 9 = .ok (.ireturn, 1) := by decide +kernel
theorem dX5_one_10 : decode cX5_one 10 = .ok (.aload_n 0, 1) := by decide +kernel
theorem dX5_one_11 : decode cX5_one 11 = .ok (.dup, 1) := by decide +kernel
theorem dX5_one_12 : decode cX5_one 12 = .ok (.getfield 25, 3) := by decide +kernel
theorem dX5_one_15 : decode cX5_one 15 = .ok (.iconst 1, 1) := by decide +kernel
theorem dX5_one_16 : decode cX5_one 16 = .ok (.iadd, 1) := by decide +kernel
theorem dX5_one_17 : decode cX5_one 17 = .ok (.putfield 25, 3) := by decide +kernel
theorem dX5_one_20 : decode cX5_one 20 = .ok (.aload_n 0, 1) := by decide +kernel
theorem dX5_one_21 : decode cX5_one 21 = .ok (.getfield 24, 3) := by decide +kernel
theorem dX5_one_24 : decode cX5_one 24 = .ok (.aload_n 0, 1) := by decide +kernel
theorem dX5_one_25 : decode cX5_one 25 = .ok (.getfield 25, 3) := by decide +kernel
theorem dX5_one_28 : decode cX5_one 28 = .ok (.iconst 1, 1) := by decide +kernel
theorem dX5_one_29 : decode cX5_one 29 = .ok (.isub, 1) := by decide +kernel
theorem dX5_one_30 : decode cX5_one 30 = .ok (.iaload, 1) := by decide +kernel
theorem dX5_one_31 : decode cX5_one 31 = .ok (.ireturn, 1) := by decide +kernel
theorem dX5_two_0 : decode cX5_two 0 = .ok (.aload_n 0, 1) := by decide +kernel
theorem dX5_two_1 : decode cX5_two 1 = .ok (.iconst 2, 1) := by decide +kernel
theorem dX5_two_2 : decode cX5_two 2 = .ok (.invokevirtual 45, 3) := by decide +kernel
theorem dX5_two_5 : decode cX5_two 5 = .ok (.ifCond .ne 5, 3) := by decide +kernel
theorem dX5_two_8 : decode cX5_two 8 = .ok (.iconst 0, 1) := by decide +kernel
theorem dX5_two_9 : decode cX5_two 9 = .ok (.ireturn, 1) := by decide +kernel
theorem dX5_two_10 : decode cX5_two 10 = .ok (.aload_n 0, 1) := by decide +kernel
theorem dX5_two_11 : decode cX5_two 11 = .ok (.dup, 1) := by decide +kernel
theorem dX5_two_12 : decode cX5_two 12 = .ok (.getfield 25, 3) := by decide +kernel
theorem dX5_two_15 : decode cX5_two 15 = .ok (.iconst 2, 1) := by decide +kernel
theorem dX5_two_16 : decode cX5_two 16 = .ok (.iadd, 1) := by decide +kernel
theorem dX5_two_17 : decode cX5_two 17 = .ok (.putfield 25, 3) := by decide +kernel
theorem dX5_two_20 : decode cX5_two 20 = .ok (.aload_n 0, 1) := by decide +kernel
theorem dX5_two_21 : decode cX5_two 21 = .ok (.getfield 24, 3) := by decide +kernel
theorem dX5_two_24 : decode cX5_two 24 = .ok (.aload_n 0, 1) := by decide +kernel
theorem dX5_two_25 : decode cX5_two 25 = .ok (.getfield 25, 3) := by decide +kernel
theorem dX5_two_28 : decode cX5_two 28 = .ok (.iconst 2, 1) := by decide +kernel
theorem dX5_two_29 : decode cX5_two 29 = .ok (.isub, 1) := by decide +kernel
theorem dX5_two_30 : decode cX5_two 30 = .ok (.iaload, 1) := by decide +kernel
theorem dX5_two_31 : decode cX5_two 31 = .ok (.bipush 8, 2) := by decide +kernel
theorem dX5_two_33 : decode cX5_two 33 = .ok (.ishl, 1) := by decide +kernel
theorem dX5_two_34 : decode cX5_two 34 = .ok (.aload_n 0, 1) := by decide +kernel
theorem dX5_two_35 : decode cX5_two 35 = .ok (.getfield 24, 3) := by decide +kernel
theorem dX5_two_38 : decode cX5_two 38 = .ok (.aload_n 0, 1) := by decide +kernel
theorem dX5_two_39 : decode cX5_two 39 = .ok (.getfield 25, 3) := by decide +kernel
theorem dX5_two_42 : decode cX5_two 42 = .ok (.iconst 1, 1) := by decide +kernel
theorem dX5_two_43 : decode cX5_two 43 = .ok (.isub, 1) := by decide +kernel
theorem dX5_two_44 : decode cX5_two 44 = .ok (.iaload, 1) := by decide +kernel
theorem dX5_two_45 : decode cX5_two 45 = .ok (.ior, 1) := by decide +kernel
theorem dX5_two_46 : decode cX5_two 46 = .ok (.ireturn, 1) := by decide +kernel
theorem dX5_four_0 : decode cX5_four 0 = .ok (.aload_n 0, 1) := by decide +kernel
theorem dX5_four_1 : decode cX5_four 1 = .ok (.iconst 4, 1) := by decide +kernel
theorem dX5_four_2 : decode cX5_four 2 = .ok (.invokevirtual 45, 3) := by decide +kernel
theorem dX5_four_5 : decode cX5_four 5 = .ok (.ifCond .ne 5, 3) := by decide +kernel
theorem dX5_four_8 : decode cX5_four 8 = .ok (.lconst 0, 1) := by decide +kernel
theorem dX5_four_9 : decode cX5_four 9 = .ok (.lreturn, 1) := by decide +kernel
theorem dX5_four_10 : decode cX5_four 10 = .ok (.aload_n 0, 1) := by decide +kernel
theorem dX5_four_11 : decode cX5_four 11 = .ok (.dup, 1) := by decide +kernel
theorem dX5_four_12 : decode cX5_four 12 = .ok (.getfield 25, 3) := by decide +kernel
theorem dX5_four_15 : decode cX5_four 15 = .ok (.iconst 4, 1) := by decide +kernel
theorem dX5_four_16 : decode cX5_four 16 = .ok (.iadd, 1) := by decide +kernel
theorem dX5_four_17 : decode cX5_four 17 = .ok (.putfield 25, 3) := by decide +kernel
theorem dX5_four_20 : decode cX5_four 20 = .ok (.aload_n 0, 1) := by decide +kernel
theorem dX5_four_21 : decode cX5_four 21 = .ok (.getfield 24, 3) := by decide +kernel
theorem dX5_four_24 : decode cX5_four 24 = .ok (.aload_n 0, 1) := by decide +kernel
theorem dX5_four_25 : decode cX5_four 25 = .ok (.getfield 25, 3) := by decide +kernel
theorem dX5_four_28 : decode cX5_four 28 = .ok (.iconst 4, 1) := by decide +kernel
theorem dX5_four_29 : decode cX5_four 29 = .ok (.isub, 1) := by decide +kernel
theorem dX5_four_30 : decode cX5_four 30 = .ok (.iaload, 1) := by decide +kernel
theorem dX5_four_31 : decode cX5_four 31 = .ok (.bipush 8, 2) := by decide +kernel
theorem dX5_four_33 : decode cX5_four 33 = .ok (.ishl, 1) := by decide +kernel
theorem dX5_four_34 : decode cX5_four 34 = .ok (.aload_n 0, 1) := by decide +kernel
theorem dX5_four_35 : decode cX5_four 35 = .ok (.getfield 24, 3) := by decide +kernel
theorem dX5_four_38 : decode cX5_four 38 = .ok (.aload_n 0, 1) := by decide +kernel
theorem dX5_four_39 : decode cX5_four 39 = .ok (.getfield 25, 3) := by decide +kernel
theorem dX5_four_42 : decode cX5_four 42 = .ok (.iconst 3, 1) := by decide +kernel
theorem dX5_four_43 : decode cX5_four 43 = .ok (.isub, 1) := by decide +kernel
theorem dX5_four_44 : decode cX5_four 44 = .ok (.iaload, 1) := by decide +kernel
theorem dX5_four_45 : decode cX5_four 45 = .ok (.ior, 1) := by decide +kernel
theorem dX5_four_46 : decode cX5_four 46 = .ok (.i2l, 1) := by decide +kernel
theorem dX5_four_47 : decode cX5_four 47 = .ok (.lstore_n 1, 1) := by decide +kernel
theorem dX5_four_48 : decode cX5_four 48 = .ok (.lload_n 1, 1) := by decide +kernel
theorem dX5_four_49 : decode cX5_four 49 = .ok (.bipush 16, 2) := by decide +kernel
theorem dX5_four_51 : decode cX5_four 51 = .ok (.lshl, 1) := by decide +kernel
theorem dX5_four_52 : decode cX5_four 52 = .ok (.aload_n 0, 1) := by decide +kernel
theorem dX5_four_53 : decode cX5_four 53 = .ok (.getfield 24, 3) := by decide +kernel
theorem dX5_four_56 : decode cX5_four 56 = .ok (.aload_n 0, 1) := by decide +kernel
theorem dX5_four_57 : decode cX5_four 57 = .ok (.getfield 25, 3) := by decide +kernel
theorem dX5_four_60 : decode cX5_four 60 = .ok (.iconst 2, 1) := by decide +kernel
theorem dX5_four_61 : decode cX5_four 61 = .ok (.isub, 1) := by decide +kernel
theorem dX5_four_62 : decode cX5_four 62 = .ok (.iaload, 1) := by decide +kernel
theorem dX5_four_63 : decode cX5_four 63 = .ok (.bipush 8, 2) := by decide +kernel
theorem dX5_four_65 : decode cX5_four 65 = .ok (.ishl, 1) := by decide +kernel
theorem dX5_four_66 : decode cX5_four 66 = .ok (.i2l, 1) := by decide +kernel
theorem dX5_four_67 : decode cX5_four 67 = .ok (.lor, 1) := by decide +kernel
theorem dX5_four_68 : decode cX5_four 68 = .ok (.aload_n 0, 1) := by decide +kernel
theorem dX5_four_69 : decode cX5_four 69 = .ok (.getfield 24, 3) := by decide +kernel
theorem dX5_four_72 : decode cX5_four 72 = .ok (.aload_n 0, 1) := by decide +kernel
theorem dX5_four_73 : decode cX5_four 73 = .ok (.getfield 25, 3) := by decide +kernel
theorem dX5_four_76 : decode cX5_four 76 = .ok (.iconst 1, 1) := by decide +kernel
theorem dX5_four_77 : decode cX5_four 77 = .ok (.isub, 1) := by decide +kernel
theorem dX5_four_78 : decode cX5_four 78 = .ok (.iaload, 1) := by decide +kernel
theorem dX5_four_79 : decode cX5_four 79 = .ok (.i2l, 1) := by decide +kernel
theorem dX5_four_80 : decode cX5_four 80 = .ok (.lor, 1) := by decide +kernel
theorem dX5_four_81 : decode cX5_four 81 = .ok (.lreturn, 1) := by decide +kernel
theorem dX5_variable_0 : decode cX5_variable 0 = .ok (.iconst 0, 1) := by decide +kernel
theorem dX5_variable_1 : decode cX5_variable 1 = .ok (.istore_n 1, 1) := by decide +kernel
theorem dX5_variable_2 : decode cX5_variable 2 = .ok (.iconst 0, 1) := by decide +kernel
theorem dX5_variable_3 : decode cX5_variable 3 = .ok (.istore_n 2, 1) := by decide +kernel
theorem dX5_variable_4 : decode cX5_variable 4 = .ok (.iload_n 2, 1) := by decide +kernel
theorem dX5_variable_5 : decode cX5_variable 5 = .ok (.iconst 4, 1) := by decide +kernel
theorem dX5_variable_6 : decode cX5_variable 6 = .ok (.if_icmp .ge 58, 3) := by decide +kernel
theorem dX5_variable_9 : decode cX5_variable 9 = .ok (.aload_n 0, 1) := by decide +kernel
theorem dX5_variable_10 : decode cX5_variable 10 = .ok (.iconst 1, 1) := by decide +kernel
theorem dX5_variable_11 : decode cX5_variable 11 = .ok (.invokevirtual 45, 3) := by decide +kernel
theorem dX5_variable_14 : decode cX5_variable 14 = .ok (.ifCond .eq 50, 3) := by decide +kernel
theorem dX5_variable_17 : decode cX5_variable 17 = .ok (.aload_n 0, 1) := by decide +kernel
theorem dX5_variable_18 : decode cX5_variable 18 = .ok (.getfield 24, 3) := by decide +kernel
theorem dX5_variable_21 : decode cX5_variable 21 = .ok (.aload_n 0, 1) := by decide +kernel
theorem dX5_variable_22 : decode cX5_variable 22 = .ok (.getfield 25, 3) := by decide +kernel
theorem dX5_variable_25 : decode cX5_variable 25 = .ok (.iaload, 1) := by decide +kernel
theorem dX5_variable_26 : decode cX5_variable 26 = .ok (.istore_n 3, 1) := by decide +kernel
theorem dX5_variable_27 : decode cX5_variable 27 = .ok (.aload_n 0, 1) := by decide +kernel
theorem dX5_variable_28 : decode cX5_variable 28 = .ok (.dup, 1) := by decide +kernel
theorem dX5_variable_29 : decode cX5_variable 29 = .ok (.getfield 25, 3) := by decide +kernel
theorem dX5_variable_32 : decode cX5_variable 32 = .ok (.iconst 1, 1) := by decide +kernel
theorem dX5_variable_33 : decode cX5_variable 33 = .ok (.iadd, 1) := by decide +kernel
theorem dX5_variable_34 : decode cX5_variable 34 = .ok (.putfield 25, 3) := by decide +kernel
theorem dX5_variable_37 : decode cX5_variable 37 = .ok (.iload_n 1, 1) := by decide +kernel
theorem dX5_variable_38 : decode cX5_variable 38 = .ok (.iload_n 3, 1) := by decide +kernel
theorem dX5_variable_39 : decode cX5_variable 39 = .ok (.bipush 127, 2) := by decide +kernel
theorem dX5_variable_41 : decode cX5_variable 41 = .ok (.iand, 1) := by decide +kernel
theorem dX5_variable_42 : decode cX5_variable 42 = .ok (.bipush 7, 2) := by decide +kernel
theorem dX5_variable_44 : decode cX5_variable 44 = .ok (.iload_n 2, 1) := by decide +kernel
theorem dX5_variable_45 : decode cX5_variable 45 = .ok (.imul, 1) := by decide +kernel
theorem dX5_variable_46 : decode cX5_variable 46 = .ok (.ishl, 1) := by decide +kernel
theorem dX5_variable_47 : decode cX5_variable 47 = .ok (.ior, 1) := by decide +kernel
theorem dX5_variable_48 : decode cX5_variable 48 = .ok (.istore_n 1, 1) := by decide +kernel
theorem dX5_variable_49 : decode cX5_variable 49 = .ok (.iload_n 3, 1) := by decide +kernel
theorem dX5_variable_50 : decode cX5_variable 50 = .ok (.sipush 128, 3) := by decide +kernel
theorem dX5_variable_53 : decode cX5_variable 53 = .ok (.if_icmp .ge 5, 3) := by decide +kernel
theorem dX5_variable_56 : decode cX5_variable 56 = .ok (.iload_n 1, 1) := by decide +kernel
theorem dX5_variable_57 : decode cX5_variable 57 = .ok (.ireturn, 1) := by decide +kernel
theorem dX5_variable_58 : decode cX5_variable 58 = .ok (.iinc 2 1, 3) := by decide +kernel
theorem dX5_variable_61 : decode cX5_variable 61 = .ok (.goto (-57), 3) := by decide +kernel
theorem dX5_variable_64 : decode cX5_variable 64 = .ok (.aload_n 0, 1) := by decide +kernel
theorem dX5_variable_65 : decode cX5_variable 65 = .ok (.sipush 129, 3) := by decide +kernel
theorem dX5_variable_68 : decode cX5_variable 68 = .ok (.invokevirtual 41, 3) := by decide +kernel
theorem dX5_variable_71 : decode cX5_variable 71 = .ok (.iconst 0, 1) := by decide +kernel
theorem dX5_variable_72 : decode cX5_variable 72 = .ok (.ireturn, 1) := by decide +kernel
theorem dX5_number_0 : decode cX5_number 0 = .ok (.aload_n 0, 1) := by decide +kernel
theorem dX5_number_1 : decode cX5_number 1 = .ok (.invokevirtual 49, 3) := by decide +kernel
theorem dX5_number_4 : decode cX5_number 4 = .ok (.istore_n 1, 1) := by decide +kernel
theorem dX5_number_5 : decode cX5_number 5 = .ok (.iload_n 1, 1) := by decide +kernel
theorem dX5_number_6 : decode cX5_number 6 = .ok (.ifCond .ne 10, 3) := by decide +kernel
theorem dX5_number_9 : decode cX5_number 9 = .ok (.aload_n 0, 1) := by decide +kernel
theorem dX5_number_10 : decode cX5_number 10 = .ok (.sipush 130, 3) := by decide +kernel
theorem dX5_number_13 : decode cX5_number 13 = .ok (.invokevirtual 41, 3) := by decide +kernel
theorem dX5_number_16 : decode cX5_number 16 = .ok (.iload_n 1, 1) := by decide +kernel
theorem dX5_number_17 : decode cX5_number 17 = .ok (.ireturn, 1) := by decide +kernel
theorem dX5_row_0 : decode cX5_row 0 = .ok (.aload_n 0, 1) := by decide +kernel
theorem dX5_row_1 : decode cX5_row 1 = .ok (.iconst 2, 1) := by decide +kernel
theorem dX5_row_2 : decode cX5_row 2 = .ok (.invokevirtual 45, 3) := by decide +kernel
theorem dX5_row_5 : decode cX5_row 5 = .ok (.ifCond .ne 8, 3) := by decide +kernel
theorem dX5_row_8 : decode cX5_row 8 = .ok (.aload_n 0, 1) := by decide +kernel
theorem dX5_row_9 : decode cX5_row 9 = .ok (.getfield 14, 3) := by decide +kernel
theorem dX5_row_12 : decode cX5_row 12 = .ok (.areturn, 1) := by decide +kernel
theorem dX5_row_13 : decode cX5_row 13 = .ok (.aload_n 0, 1) := by decide +kernel
theorem dX5_row_14 : decode cX5_row 14 = .ok (.getfield 24, 3) := by decide +kernel
theorem dX5_row_17 : decode cX5_row 17 = .ok (.aload_n 0, 1) := by decide +kernel
theorem dX5_row_18 : decode cX5_row 18 = .ok (.getfield 25, 3) := by decide +kernel
theorem dX5_row_21 : decode cX5_row 21 = .ok (.iaload, 1) := by decide +kernel
theorem dX5_row_22 : decode cX5_row 22 = .ok (.bipush 8, 2) := by decide +kernel
theorem dX5_row_24 : decode cX5_row 24 = .ok (.ishl, 1) := by decide +kernel
theorem dX5_row_25 : decode cX5_row 25 = .ok (.aload_n 0, 1) := by decide +kernel
theorem dX5_row_26 : decode cX5_row 26 = .ok (.getfield 24, 3) := by decide +kernel
theorem dX5_row_29 : decode cX5_row 29 = .ok (.aload_n 0, 1) := by decide +kernel
theorem dX5_row_30 : decode cX5_row 30 = .ok (.getfield 25, 3) := by decide +kernel
theorem dX5_row_33 : decode cX5_row 33 = .ok (.iconst 1, 1) := by decide +kernel
theorem dX5_row_34 : decode cX5_row 34 = .ok (.iadd, 1) := by decide +kernel
theorem dX5_row_35 : decode cX5_row 35 = .ok (.iaload, 1) := by decide +kernel
theorem dX5_row_36 : decode cX5_row 36 = .ok (.ior, 1) := by decide +kernel
theorem dX5_row_37 : decode cX5_row 37 = .ok (.istore_n 2, 1) := by decide +kernel
theorem dX5_row_38 : decode cX5_row 38 = .ok (.aload_n 0, 1) := by decide +kernel
theorem dX5_row_39 : decode cX5_row 39 = .ok (.dup, 1) := by decide +kernel
theorem dX5_row_40 : decode cX5_row 40 = .ok (.getfield 25, 3) := by decide +kernel
theorem dX5_row_43 : decode cX5_row 43 = .ok (.iconst 2, 1) := by decide +kernel
theorem dX5_row_44 : decode cX5_row 44 = .ok (.iadd, 1) := by decide +kernel
theorem dX5_row_45 : decode cX5_row 45 = .ok (.putfield 25, 3) := by decide +kernel
theorem dX5_row_48 : decode cX5_row 48 = .ok (.aload_n 0, 1) := by decide +kernel
theorem dX5_row_49 : decode cX5_row 49 = .ok (.iload_n 2, 1) := by decide +kernel
theorem dX5_row_50 : decode cX5_row 50 = .ok (.invokevirtual 45, 3) := by decide +kernel
theorem dX5_row_53 : decode cX5_row 53 = .ok (.ifCond .ne 8, 3) := by decide +kernel
theorem dX5_row_56 : decode cX5_row 56 = .ok (.aload_n 0, 1) := by decide +kernel
theorem dX5_row_57 : decode cX5_row 57 = .ok (.getfield 14, 3) := by decide +kernel
theorem dX5_row_60 : decode cX5_row 60 = .ok (.areturn, 1) := by decide +kernel
theorem dX5_row_61 : decode cX5_row 61 = .ok (.new 9, 3) := by decide +kernel
theorem dX5_row_64 : decode cX5_row 64 = .ok (.dup, 1) := by decide +kernel
theorem dX5_row_65 : decode cX5_row 65 = .ok (.aload_n 0, 1) := by decide +kernel
theorem dX5_row_66 : decode cX5_row 66 = .ok (.getfield 24, 3) := by decide +kernel
theorem dX5_row_69 : decode cX5_row 69 = .ok (.aload_n 0, 1) := by decide +kernel
theorem dX5_row_70 : decode cX5_row 70 = .ok (.getfield 25, 3) := by decide +kernel
theorem dX5_row_73 : decode cX5_row 73 = .ok (.aload_n 0, 1) := by decide +kernel
theorem dX5_row_74 : decode cX5_row 74 = .ok (.getfield 25, 3) := by decide +kernel
theorem dX5_row_77 : decode cX5_row 77 = .ok (.iload_n 2, 1) := by decide +kernel
theorem dX5_row_78 : decode cX5_row 78 = .ok (.iadd, 1) := by decide +kernel
theorem dX5_row_79 : decode cX5_row 79 = .ok (.invokestatic 53, 3) := by decide +kernel
theorem dX5_row_82 : decode cX5_row 82 = .ok (.invokespecial 11, 3) := by decide +kernel
theorem dX5_row_85 : decode cX5_row 85 = .ok (.astore_n 3, 1) := by decide +kernel
theorem dX5_row_86 : decode cX5_row 86 = .ok (.aload_n 0, 1) := by decide +kernel
theorem dX5_row_87 : decode cX5_row 87 = .ok (.dup, 1) := by decide +kernel
theorem dX5_row_88 : decode cX5_row 88 = .ok (.getfield 25, 3) := by decide +kernel
theorem dX5_row_91 : decode cX5_row 91 = .ok (.iload_n 2, 1) := by decide +kernel
theorem dX5_row_92 : decode cX5_row 92 = .ok (.iadd, 1) := by decide +kernel
theorem dX5_row_93 : decode cX5_row 93 = .ok (.putfield 25, 3) := by decide +kernel
theorem dX5_row_96 : decode cX5_row 96 = .ok (.iload_n 1, 1) := by decide +kernel
theorem dX5_row_97 : decode cX5_row 97 = .ok (.ifCond .eq 22, 3) := by decide +kernel
theorem dX5_row_100 : decode cX5_row 100 = .ok (.aload_n 3, 1) := by decide +kernel
theorem dX5_row_101 : decode cX5_row 101 = .ok (.invokevirtual 59, 3) := by decide +kernel
