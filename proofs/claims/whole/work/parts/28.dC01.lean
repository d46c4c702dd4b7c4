theorem dX5_row_104 : decode cX5_row 104 = .ok (.ifCond .ne 15, 3) := by decide +kernel
theorem dX5_row_107 : decode cX5_row 107 = .ok (.aload_n 0, 1) := by decide +kernel
theorem dX5_row_108 : decode cX5_row 108 = .ok (.sipush 129, 3) := by decide +kernel
theorem dX5_row_111 : decode cX5_row 111 = .ok (.invokevirtual 41, 3) := by decide +kernel
theorem dX5_row_114 : decode cX5_row 114 = .ok (.aload_n 0, 1) := by decide +kernel
theorem dX5_row_115 : decode cX5_row 115 = .ok (.getfield 14, 3) := by decide +kernel
theorem dX5_row_118 : decode cX5_row 118 = .ok (.areturn, 1) := by decide +kernel
theorem dX5_row_119 : decode cX5_row 119 = .ok (.aload_n 3, 1) := by decide +kernel
theorem dX5_row_120 : decode cX5_row 120 = .ok (.areturn, 1) := by decide +kernel
theorem dX5_rest_0 : decode cX5_rest 0 = .ok (.new 9, 3) := by decide +kernel
theorem dX5_rest_3 : decode cX5_rest 3 = .ok (.dup, 1) := by decide +kernel
theorem dX5_rest_4 : decode cX5_rest 4 = .ok (.aload_n 0, 1) := by decide +kernel
theorem dX5_rest_5 : decode cX5_rest 5 = .ok (.getfield 24, 3) := by decide +kernel
theorem dX5_rest_8 : decode cX5_rest 8 = .ok (.aload_n 0, 1) := by decide +kernel
theorem dX5_rest_9 : decode cX5_rest 9 = .ok (.getfield 25, 3) := by decide +kernel
theorem dX5_rest_12 : decode cX5_rest 12 = .ok (.aload_n 0, 1) := by decide +kernel
theorem dX5_rest_13 : decode cX5_rest 13 = .ok (.getfield 25, 3) := by decide +kernel
theorem dX5_rest_16 : decode cX5_rest 16 = .ok (.aload_n 0, 1) := by decide +kernel
theorem dX5_rest_17 : decode cX5_rest 17 = .ok (.invokevirtual 63, 3) := by decide +kernel
theorem dX5_rest_20 : decode cX5_rest 20 = .ok (.iadd, 1) := by decide +kernel
theorem dX5_rest_21 : decode cX5_rest 21 = .ok (.invokestatic 53, 3) := by decide +kernel
theorem dX5_rest_24 : decode cX5_rest 24 = .ok (.invokespecial 11, 3) := by decide +kernel
theorem dX5_rest_27 : decode cX5_rest 27 = .ok (.areturn, 1) := by decide +kernel
theorem dX5_finish_0 : decode cX5_finish 0 = .ok (.aload_n 0, 1) := by decide +kernel
theorem dX5_finish_1 : decode cX5_finish 1 = .ok (.invokevirtual 63, 3) := by decide +kernel
theorem dX5_finish_4 : decode cX5_finish 4 = .ok (.ifCond .le 10, 3) := by decide +kernel
theorem dX5_finish_7 : decode cX5_finish 7 = .ok (.aload_n 0, 1) := by decide +kernel
theorem dX5_finish_8 : decode cX5_finish 8 = .ok (.sipush 129, 3) := by decide +kernel
theorem dX5_finish_11 : decode cX5_finish 11 = .ok (.invokevirtual 41, 3) := by decide +kernel
theorem dX5_finish_14 : decode cX5_finish 14 = .ok (.return_, 1) := by decide +kernel
theorem dX6_init_0 : decode cX6_init 0 = .ok (.aload_n 0, 1) := by decide +kernel
theorem dX6_init_1 : decode cX6_init 1 = .ok (.invokespecial 3, 3) := by decide +kernel
theorem dX6_init_4 : decode cX6_init 4 = .ok (.aload_n 0, 1) := by decide +kernel
theorem dX6_init_5 : decode cX6_init 5 = .ok (.bipush 16, 2) := by decide +kernel
theorem dX6_init_7 : decode cX6_init 7 = .ok (.anewarray 9, 3) := by decide +kernel
theorem dX6_init_10 : decode cX6_init 10 = .ok (.putfield 11, 3) := by decide +kernel
theorem dX6_init_13 : decode cX6_init 13 = .ok (.return_, 1) := by decide +kernel
theorem dX6_get_0 : decode cX6_get 0 = .ok (.iload_n 1, 1) := by decide +kernel
theorem dX6_get_1 : decode cX6_get 1 = .ok (.ifCond .lt 20, 3) := by decide +kernel
theorem dX6_get_4 : decode cX6_get 4 = .ok (.iload_n 1, 1) := by decide +kernel
theorem dX6_get_5 : decode cX6_get 5 = .ok (.aload_n 0, 1) := by decide +kernel
theorem dX6_get_6 : decode cX6_get 6 = .ok (.getfield 17, 3) := by decide +kernel
theorem dX6_get_9 : decode cX6_get 9 = .ok (.if_icmp .ge 12, 3) := by decide +kernel
theorem dX6_get_12 : decode cX6_get 12 = .ok (.aload_n 0, 1) := by decide +kernel
theorem dX6_get_13 : decode cX6_get 13 = .ok (.getfield 11, 3) := by decide +kernel
theorem dX6_get_16 : decode cX6_get 16 = .ok (.iload_n 1, 1) := by decide +kernel
theorem dX6_get_17 : decode cX6_get 17 = .ok (.aaload, 1) := by decide +kernel
theorem dX6_get_18 : decode cX6_get 18 = .ok (.goto 4, 3) := by decide +kernel
theorem dX6_get_21 : decode cX6_get 21 = .ok (.aconst_null, 1) := by decide +kernel
theorem dX6_get_22 : decode cX6_get 22 = .ok (.areturn, 1) := by decide +kernel
theorem dX6_keep_0 : decode cX6_keep 0 = .ok (.iconst 0, 1) := by decide +kernel
theorem dX6_keep_1 : decode cX6_keep 1 = .ok (.istore_n 3, 1) := by decide +kernel
theorem dX6_keep_2 : decode cX6_keep 2 = .ok (.iload_n 3, 1) := by decide +kernel
theorem dX6_keep_3 : decode cX6_keep 3 = .ok (.aload_n 0, 1) := by decide +kernel
theorem dX6_keep_4 : decode cX6_keep 4 = .ok (.getfield 17, 3) := by decide +kernel
theorem dX6_keep_7 : decode cX6_keep 7 = .ok (.if_icmp .ge 28, 3) := by decide +kernel
theorem dX6_keep_10 : decode cX6_keep 10 = .ok (.aload_n 0, 1) := by decide +kernel
theorem dX6_keep_11 : decode cX6_keep 11 = .ok (.getfield 11, 3) := by decide +kernel
theorem dX6_keep_14 : decode cX6_keep 14 = .ok (.iload_n 3, 1) := by decide +kernel
theorem dX6_keep_15 : decode cX6_keep 15 = .ok (.aaload, 1) := by decide +kernel
theorem dX6_keep_16 : decode cX6_keep 16 = .ok (.getfield 21, 3) := by decide +kernel
theorem dX6_keep_19 : decode cX6_keep 19 = .ok (.aload_n 1, 1) := by decide +kernel
theorem dX6_keep_20 : decode cX6_keep 20 = .ok (.getfield 21, 3) := by decide +kernel
theorem dX6_keep_23 : decode cX6_keep 23 = .ok (.invokevirtual 25, 3) := by decide +kernel
theorem dX6_keep_26 : decode cX6_keep 26 = .ok (.ifCond .ne 9, 3) := by decide +kernel
theorem dX6_keep_29 : decode cX6_keep 29 = .ok (.iinc 3 1, 3) := by decide +kernel
theorem dX6_keep_32 : decode cX6_keep 32 = .ok (.goto (-30), 3) := by decide +kernel
theorem dX6_keep_35 : decode cX6_keep 35 = .ok (.aload_n 1, 1) := by decide +kernel
theorem dX6_keep_36 : decode cX6_keep 36 = .ok (.getfield 31, 3) := by decide +kernel
theorem dX6_keep_39 : decode cX6_keep 39 = .ok (.invokevirtual 34, 3) := by decide +kernel
theorem dX6_keep_42 : decode cX6_keep 42 = .ok (.ifCond .ne 10, 3) := by decide +kernel
theorem dX6_keep_45 : decode cX6_keep 45 = .ok (.aload_n 0, 1) := by decide +kernel
theorem dX6_keep_46 : decode cX6_keep 46 = .ok (.iload_n 3, 1) := by decide +kernel
theorem dX6_keep_47 : decode cX6_keep 47 = .ok (.invokevirtual 37, 3) := by decide +kernel
theorem dX6_keep_50 : decode cX6_keep 50 = .ok (.iconst 1, 1) := by decide +kernel
theorem dX6_keep_51 : decode cX6_keep 51 = .ok (.ireturn, 1) := by decide +kernel
theorem dX6_keep_52 : decode cX6_keep 52 = .ok (.iload_n 3, 1) := by decide +kernel
theorem dX6_keep_53 : decode cX6_keep 53 = .ok (.bipush 16, 2) := by decide +kernel
theorem dX6_keep_55 : decode cX6_keep 55 = .ok (.if_icmp .ne 5, 3) := by decide +kernel
theorem dX6_keep_58 : decode cX6_keep 58 = .ok (.iconst 0, 1) := by decide +kernel
theorem dX6_keep_59 : decode cX6_keep 59 = .ok (.ireturn, 1) := by decide +kernel
theorem dX6_keep_60 : decode cX6_keep 60 = .ok (.aload_n 0, 1) := by decide +kernel
theorem dX6_keep_61 : decode cX6_keep 61 = .ok (.getfield 11, 3) := by decide +kernel
theorem dX6_keep_64 : decode cX6_keep 64 = .ok (.iload_n 3, 1) := by decide +kernel
theorem dX6_keep_65 : decode cX6_keep 65 = .ok (.aload_n 1, 1) := by decide +kernel
theorem dX6_keep_66 : decode cX6_keep 66 = .ok (.aastore, 1) := by decide +kernel
theorem dX6_keep_67 : decode cX6_keep 67 = .ok (.aload_n 0, 1) := by decide +kernel
theorem dX6_keep_68 : decode cX6_keep 68 = .ok (.aload_n 0, 1) := by decide +kernel
theorem dX6_keep_69 : decode cX6_keep 69 = .ok (.getfield 17, 3) := by decide +kernel
theorem dX6_keep_72 : decode cX6_keep 72 = .ok (.iload_n 3, 1) := by decide +kernel
theorem dX6_keep_73 : decode cX6_keep 73 = .ok (.iconst 1, 1) := by decide +kernel
theorem dX6_keep_74 : decode cX6_keep 74 = .ok (.iadd, 1) := by decide +kernel
theorem dX6_keep_75 : decode cX6_keep 75 = .ok (.invokestatic 41, 3) := by decide +kernel
theorem dX6_keep_78 : decode cX6_keep 78 = .ok (.putfield 17, 3) := by decide +kernel
theorem dX6_keep_81 : decode cX6_keep 81 = .ok (.aload_n 1, 1) := by decide +kernel
theorem dX6_keep_82 : decode cX6_keep 82 = .ok (.iload_n 2, 1) := by decide +kernel
theorem dX6_keep_83 : decode cX6_keep 83 = .ok (.invokevirtual 47, 3) := by decide +kernel
theorem dX6_keep_86 : decode cX6_keep 86 = .ok (.ifCond .eq 8, 3) := by decide +kernel
theorem dX6_keep_89 : decode cX6_keep 89 = .ok (.aload_n 0, 1) := by decide +kernel
theorem dX6_keep_90 : decode cX6_keep 90 = .ok (.iload_n 3, 1) := by decide +kernel
theorem dX6_keep_91 : decode cX6_keep 91 = .ok (.invokevirtual 37, 3) := by decide +kernel
theorem dX6_keep_94 : decode cX6_keep 94 = .ok (.iconst 1, 1) := by decide +kernel
theorem dX6_keep_95 : decode cX6_keep 95 = .ok (.ireturn, 1) := by decide +kernel
theorem dX6_discard_0 : decode cX6_discard 0 = .ok (.iload_n 1, 1) := by decide +kernel
theorem dX6_discard_1 : decode cX6_discard 1 = .ok (.aload_n 0, 1) := by decide +kernel
theorem dX6_discard_2 : decode cX6_discard 2 = .ok (.getfield 17, 3) := by decide +kernel
theorem dX6_discard_5 : decode cX6_discard 5 = .ok (.if_icmp .lt 4, 3) := by decide +kernel
theorem dX6_discard_8 : decode cX6_discard 8 = .ok (.return_, 1) := by decide +kernel
theorem dX6_discard_9 : decode cX6_discard 9 = .ok (.aload_n 0, 1) := by decide +kernel
theorem dX6_discard_10 : decode cX6_discard 10 = .ok (.dup, 1) := by decide +kernel
theorem dX6_discard_11 : decode cX6_discard 11 = .ok (.getfield 17, 3) := by decide +kernel
theorem dX6_discard_14 : decode cX6_discard 14 = .ok (.iconst 1, 1) := by decide +kernel
theorem dX6_discard_15 : decode cX6_discard 15 = .ok (.isub, 1) := by decide +kernel
theorem dX6_discard_16 : decode cX6_discard 16 = .ok (.putfield 17, 3) := by decide +kernel
theorem dX6_discard_19 : decode cX6_discard 19 = .ok (.iload_n 1, 1) := by decide +kernel
theorem dX6_discard_20 : decode cX6_discard 20 = .ok (.istore_n 2, 1) := by decide +kernel
theorem dX6_discard_21 : decode cX6_discard 21 = .ok (.iload_n 2, 1) := by decide +kernel
theorem dX6_discard_22 : decode cX6_discard 22 = .ok (.aload_n 0, 1) := by decide +kernel
theorem dX6_discard_23 : decode cX6_discard 23 = .ok (.getfield 17, 3) := by decide +kernel
theorem dX6_discard_26 : decode cX6_discard 26 = .ok (.if_icmp .ge 23, 3) := by decide +kernel
theorem dX6_discard_29 : decode cX6_discard 29 = .ok (.aload_n 0, 1) := by decide +kernel
theorem dX6_discard_30 : decode cX6_discard 30 = .ok (.getfield 11, 3) := by decide +kernel
theorem dX6_discard_33 : decode cX6_discard 33 = .ok (.iload_n 2, 1) := by decide +kernel
theorem dX6_discard_34 : decode cX6_discard 34 = .ok (.aload_n 0, 1) := by decide +kernel
theorem dX6_discard_35 : decode cX6_discard 35 = .ok (.getfield 11, 3) := by decide +kernel
theorem dX6_discard_38 : decode cX6_discard 38 = .ok (.iload_n 2, 1) := by decide +kernel
theorem dX6_discard_39 : decode cX6_discard 39 = .ok (.iconst 1, 1) := by decide +kernel
theorem dX6_discard_40 : decode cX6_discard 40 = .ok (.iadd, 1) := by decide +kernel
theorem dX6_discard_41 : decode cX6_discard 41 = .ok (.aaload, 1) := by decide +kernel
theorem dX6_discard_42 : decode cX6_discard 42 = .ok (.aastore, 1) := by decide +kernel
theorem dX6_discard_43 : decode cX6_discard 43 = .ok (.iinc 2 1, 3) := by decide +kernel
theorem dX6_discard_46 : decode cX6_discard 46 = .ok (.goto (-25), 3) := by decide +kernel
theorem dX6_discard_49 : decode cX6_discard 49 = .ok (.aload_n 0, 1) := by decide +kernel
theorem dX6_discard_50 : decode cX6_discard 50 = .ok (.getfield 11, 3) := by decide +kernel
theorem dX6_discard_53 : decode cX6_discard 53 = .ok (.aload_n 0, 1) := by decide +kernel
theorem dX6_discard_54 : decode cX6_discard 54 = .ok (.getfield 17, 3) := by decide +kernel
theorem dX6_discard_57 : decode cX6_discard 57 = .ok (.aconst_null, 1) := by decide +kernel
theorem dX6_discard_58 : decode cX6_discard 58 = .ok (.aastore, 1) := by decide +kernel
theorem dX6_discard_59 : decode cX6_discard 59 = .ok (.return_, 1) := by decide +kernel
theorem dX6_purge_0 : decode cX6_purge 0 = .ok (.iconst 0, 1) := by decide +kernel
theorem dX6_purge_1 : decode cX6_purge 1 = .ok (.istore_n 2, 1) := by decide +kernel
theorem dX6_purge_2 : decode cX6_purge 2 = .ok (.iconst 0, 1) := by decide +kernel
theorem dX6_purge_3 : decode cX6_purge 3 = .ok (.istore_n 3, 1) := by decide +kernel
theorem dX6_purge_4 : decode cX6_purge 4 = .ok (.iload_n 3, 1) := by decide +kernel
theorem dX6_purge_5 : decode cX6_purge 5 = .ok (.aload_n 0, 1) := by decide +kernel
theorem dX6_purge_6 : decode cX6_purge 6 = .ok (.getfield 17, 3) := by decide +kernel
theorem dX6_purge_9 : decode cX6_purge 9 = .ok (.if_icmp .ge 37, 3) := by decide +kernel
theorem dX6_purge_12 : decode cX6_purge 12 = .ok (.aload_n 0, 1) := by decide +kernel
theorem dX6_purge_13 : decode cX6_purge 13 = .ok (.getfield 11, 3) := by decide +kernel
theorem dX6_purge_16 : decode cX6_purge 16 = .ok (.iload_n 3, 1) := by decide +kernel
theorem dX6_purge_17 : decode cX6_purge 17 = .ok (.aaload, 1) := by decide +kernel
theorem dX6_purge_18 : decode cX6_purge 18 = .ok (.iload_n 1, 1) := by decide +kernel
theorem dX6_purge_19 : decode cX6_purge 19 = .ok (.invokevirtual 47, 3) := by decide +kernel
theorem dX6_purge_22 : decode cX6_purge 22 = .ok (.ifCond .ne 18, 3) := by decide +kernel
theorem dX6_purge_25 : decode cX6_purge 25 = .ok (.aload_n 0, 1) := by decide +kernel
theorem dX6_purge_26 : decode cX6_purge 26 = .ok (.getfield 11, 3) := by decide +kernel
theorem dX6_purge_29 : decode cX6_purge 29 = .ok (.iload_n 2, 1) := by decide +kernel
theorem dX6_purge_30 : decode cX6_purge 30 = .ok (.aload_n 0, 1) := by decide +kernel
theorem dX6_purge_31 : decode cX6_purge 31 = .ok (.getfield 11, 3) := by decide +kernel
theorem dX6_purge_34 : decode cX6_purge 34 = .ok (.iload_n 3, 1) := by decide +kernel
theorem dX6_purge_35 : decode cX6_purge 35 = .ok (.aaload, 1) := by decide +kernel
theorem dX6_purge_36 : decode cX6_purge 36 = .ok (.aastore, 1) := by decide +kernel
theorem dX6_purge_37 : decode cX6_purge 37 = .ok (.iinc 2 1, 3) := by decide +kernel
theorem dX6_purge_40 : decode cX6_purge 40 = .ok (.iinc 3 1, 3) := by decide +kernel
theorem dX6_purge_43 : decode cX6_purge 43 = .ok (.goto (-39), 3) := by decide +kernel
theorem dX6_purge_46 : decode cX6_purge 46 = .ok (.aload_n 0, 1) := by decide +kernel
theorem dX6_purge_47 : decode cX6_purge 47 = .ok (.iload_n 2, 1) := by decide +kernel
theorem dX6_purge_48 : decode cX6_purge 48 = .ok (.putfield 17, 3) := by decide +kernel
theorem dX6_purge_51 : decode cX6_purge 51 = .ok (.return_, 1) := by decide +kernel
theorem dX7_init_0 : decode cX7_init 0 = .ok (.aload_n 0, 1) := by decide +kernel
theorem dX7_init_1 : decode cX7_init 1 = .ok (.invokespecial 3, 3) := by decide +kernel
theorem dX7_init_4 : decode cX7_init 4 = .ok (.aload_n 0, 1) := by decide +kernel
theorem dX7_init_5 : decode cX7_init 5 = .ok (.aload_n 1, 1) := by decide +kernel
theorem dX7_init_6 : decode cX7_init 6 = .ok (.putfield 9, 3) := by decide +kernel
theorem dX7_init_9 : decode cX7_init 9 = .ok (.return_, 1) := by decide +kernel
theorem dX7_count_0 : decode cX7_count 0 = .ok (.aload_n 0, 1) := by decide +kernel
theorem dX7_count_1 : decode cX7_count 1 = .ok (.getfield 9, 3) := by decide +kernel
theorem dX7_count_4 : decode cX7_count 4 = .ok (.arraylength, 1) := by decide +kernel
theorem dX7_count_5 : decode cX7_count 5 = .ok (.ireturn, 1) := by decide +kernel
theorem dX7_at_0 : decode cX7_at 0 = .ok (.iload_n 1, 1) := by decide +kernel
theorem dX7_at_1 : decode cX7_at 1 = .ok (.ifCond .lt 21, 3) := by decide +kernel
theorem dX7_at_4 : decode cX7_at 4 = .ok (.iload_n 1, 1) := by decide +kernel
theorem dX7_at_5 : decode cX7_at 5 = .ok (.aload_n 0, 1) := by decide +kernel
theorem dX7_at_6 : decode cX7_at 6 = .ok (.getfield 9, 3) := by decide +kernel
theorem dX7_at_9 : decode cX7_at 9 = .ok (.arraylength, 1) := by decide +kernel
theorem dX7_at_10 : decode cX7_at 10 = .ok (.if_icmp .ge 12, 3) := by decide +kernel
theorem dX7_at_13 : decode cX7_at 13 = .ok (.aload_n 0, 1) := by decide +kernel
theorem dX7_at_14 : decode cX7_at 14 = .ok (.getfield 9, 3) := by decide +kernel
theorem dX7_at_17 : decode cX7_at 17 = .ok (.iload_n 1, 1) := by decide +kernel
theorem dX7_at_18 : decode cX7_at 18 = .ok (.iaload, 1) := by decide +kernel
theorem dX7_at_19 : decode cX7_at 19 = .ok (.goto 4, 3) := by decide +kernel
theorem dX7_at_22 : decode cX7_at 22 = .ok (.iconst (-1), 1) := by decide +kernel
theorem dX7_at_23 : decode cX7_at 23 = .ok (.ireturn, 1) := by decide +kernel
theorem dX7_same_0 : decode cX7_same 0 = .ok (.aload_n 0, 1) := by decide +kernel
theorem dX7_same_1 : decode cX7_same 1 = .ok (.getfield 9, 3) := by decide +kernel
theorem dX7_same_4 : decode cX7_same 4 = .ok (.arraylength, 1) := by decide +kernel
theorem dX7_same_5 : decode cX7_same 5 = .ok (.aload_n 1, 1) := by decide +kernel
theorem dX7_same_6 : decode cX7_same 6 = .ok (.getfield 9, 3) := by decide +kernel
theorem dX7_same_9 : decode cX7_same 9 = .ok (.arraylength, 1) := by decide +kernel
theorem dX7_same_10 : decode cX7_same 10 = .ok (.if_icmp .eq 5, 3) := by decide +kernel
theorem dX7_same_13 : decode cX7_same 13 = .ok (.iconst 0, 1) := by decide +kernel
theorem dX7_same_14 : decode cX7_same 14 = .ok (.ireturn, 1) := by decide +kernel
theorem dX7_same_15 : decode cX7_same 15 = .ok (.iconst 0, 1) := by decide +kernel
theorem dX7_same_16 : decode cX7_same 16 = .ok (.istore_n 2, 1) := by decide +kernel
theorem dX7_same_17 : decode cX7_same 17 = .ok (.iload_n 2, 1) := by decide +kernel
theorem dX7_same_18 : decode cX7_same 18 = .ok (.aload_n 0, 1) := by decide +kernel
theorem dX7_same_19 : decode cX7_same 19 = .ok (.getfield 9, 3) := by decide +kernel
theorem dX7_same_22 : decode cX7_same 22 = .ok (.arraylength, 1) := by decide +kernel
theorem dX7_same_23 : decode cX7_same 23 = .ok (.if_icmp .ge 26, 3) := by decide +kernel
theorem dX7_same_26 : decode cX7_same 26 = .ok (.aload_n 0, 1) := by decide +kernel
theorem dX7_same_27 : decode cX7_same 27 = .ok (.getfield 9, 3) := by decide +kernel
theorem dX7_same_30 : decode cX7_same 30 = .ok (.iload_n 2, 1) := by decide +kernel
theorem dX7_same_31 : decode cX7_same 31 = .ok (.iaload, 1) := by decide +kernel
theorem dX7_same_32 : decode cX7_same 32 = .ok (.aload_n 1, 1) := by decide +kernel
theorem dX7_same_33 : decode cX7_same 33 = .ok (.getfield 9, 3) := by decide +kernel
theorem dX7_same_36 : decode cX7_same 36 = .ok (.iload_n 2, 1) := by decide +kernel
theorem dX7_same_37 : decode cX7_same 37 = .ok (.iaload, 1) := by decide +kernel
theorem dX7_same_38 : decode cX7_same 38 = .ok (.if_icmp .eq 5, 3) := by decide +kernel
theorem dX7_same_41 : decode cX7_same 41 = .ok (.iconst 0, 1) := by decide +kernel
theorem dX7_same_42 : decode cX7_same 42 = .ok (.ireturn, 1) := by decide +kernel
theorem dX7_same_43 : decode cX7_same 43 = .ok (.iinc 2 1, 3) := by decide +kernel
theorem dX7_same_46 : decode cX7_same 46 = .ok (.goto (-29), 3) := by decide +kernel
theorem dX7_same_49 : decode cX7_same 49 = .ok (.iconst 1, 1) := by decide +kernel
theorem dX7_same_50 : decode cX7_same 50 = .ok (.ireturn, 1) := by decide +kernel
theorem dX7_begins_0 : decode cX7_begins 0 = .ok (.iconst 0, 1) := by decide +kernel
theorem dX7_begins_1 : decode cX7_begins 1 = .ok (.istore_n 3, 1) := by decide +kernel
theorem dX7_begins_2 : decode cX7_begins 2 = .ok (.iload_n 3, 1) := by decide +kernel
theorem dX7_begins_3 : decode cX7_begins 3 = .ok (.aload_n 2, 1) := by decide +kernel
theorem dX7_begins_4 : decode cX7_begins 4 = .ok (.invokevirtual 15, 3) := by decide +kernel
theorem dX7_begins_7 : decode cX7_begins 7 = .ok (.if_icmp .ge 26, 3) := by decide +kernel
theorem dX7_begins_10 : decode cX7_begins 10 = .ok (.aload_n 0, 1) := by decide +kernel
theorem dX7_begins_11 : decode cX7_begins 11 = .ok (.iload_n 1, 1) := by decide +kernel
theorem dX7_begins_12 : decode cX7_begins 12 = .ok (.iload_n 3, 1) := by decide +kernel
theorem dX7_begins_13 : decode cX7_begins 13 = .ok (.iadd, 1) := by decide +kernel
theorem dX7_begins_14 : decode cX7_begins 14 = .ok (.invokevirtual 21, 3) := by decide +kernel
theorem dX7_begins_17 : decode cX7_begins 17 = .ok (.aload_n 2, 1) := by decide +kernel
theorem dX7_begins_18 : decode cX7_begins 18 = .ok (.iload_n 3, 1) := by decide +kernel
theorem dX7_begins_19 : decode cX7_begins 19 = .ok (.invokevirtual 25, 3) := by decide +kernel
theorem dX7_begins_22 : decode cX7_begins 22 = .ok (.if_icmp .eq 5, 3) := by decide +kernel
theorem dX7_begins_25 : decode cX7_begins 25 = .ok (.iconst 0, 1) := by decide +kernel
theorem dX7_begins_26 : decode cX7_begins 26 = .ok (.ireturn, 1) := by decide +kernel
theorem dX7_begins_27 : decode cX7_begins 27 = .ok (.iinc 3 1, 3) := by decide +kernel
theorem dX7_begins_30 : decode cX7_begins 30 = .ok (.goto (-28), 3) := by decide +kernel
theorem dX7_begins_33 : decode cX7_begins 33 = .ok (.iconst 1, 1) := by decide +kernel
theorem dX7_begins_34 : decode cX7_begins 34 = .ok (.ireturn, 1) := by decide +kernel
theorem dX7_isUtf8_0 : decode cX7_isUtf8 0 = .ok (.iconst 0, 1) := by decide +kernel
theorem dX7_isUtf8_1 : decode cX7_isUtf8 1 = .ok (.istore_n 1, 1) := by decide +kernel
theorem dX7_isUtf8_2 : decode cX7_isUtf8 2 = .ok (.iconst 0, 1) := by decide +kernel
theorem dX7_isUtf8_3 : decode cX7_isUtf8 3 = .ok (.istore_n 2, 1) := by decide +kernel
theorem dX7_isUtf8_4 : decode cX7_isUtf8 4 = .ok (.iconst 0, 1) := by decide +kernel
theorem dX7_isUtf8_5 : decode cX7_isUtf8 5 = .ok (.istore_n 3, 1) := by decide +kernel
theorem dX7_isUtf8_6 : decode cX7_isUtf8 6 = .ok (.iconst 0, 1) := by decide +kernel
theorem dX7_isUtf8_7 : decode cX7_isUtf8 7 = .ok (.istore 4, 2) := by decide +kernel
theorem dX7_isUtf8_9 : decode cX7_isUtf8 9 = .ok (.iload 4, 2) := by decide +kernel
theorem dX7_isUtf8_11 : decode cX7_isUtf8 11 = .ok (.aload_n 0, 1) := by decide +kernel
theorem dX7_isUtf8_12 : decode cX7_isUtf8 12 = .ok (.getfield 9, 3) := by decide +kernel
theorem dX7_isUtf8_15 : decode cX7_isUtf8 15 = .ok (.arraylength, 1) := by decide +kernel
theorem dX7_isUtf8_16 : decode cX7_isUtf8 16 = .ok (.if_icmp .ge 179, 3) := by decide +kernel
theorem dX7_isUtf8_19 : decode cX7_isUtf8 19 = .ok (.aload_n 0, 1) := by decide +kernel
theorem dX7_isUtf8_20 : decode cX7_isUtf8 20 = .ok (.getfield 9, 3) := by decide +kernel
theorem dX7_isUtf8_23 : decode cX7_isUtf8 23 = .ok (.iload 4, 2) := by decide +kernel
theorem dX7_isUtf8_25 : decode cX7_isUtf8 25 = .ok (.iaload, 1) := by decide +kernel
theorem dX7_isUtf8_26 : decode cX7_isUtf8 26 = .ok (.istore 5, 2) := by decide +kernel
theorem dX7_isUtf8_28 : decode cX7_isUtf8 28 = .ok (.iload_n 1, 1) := by decide +kernel
theorem dX7_isUtf8_29 : decode cX7_isUtf8 29 = .ok (.ifCond .le 31, 3) := by decide +kernel
theorem dX7_isUtf8_32 : decode cX7_isUtf8 32 = .ok (.iload 5, 2) := by decide +kernel
theorem dX7_isUtf8_34 : decode cX7_isUtf8 34 = .ok (.iload_n 2, 1) := by decide +kernel
theorem dX7_isUtf8_35 : decode cX7_isUtf8 35 = .ok (.if_icmp .lt 9, 3) := by decide +kernel
theorem dX7_isUtf8_38 : decode cX7_isUtf8 38 = .ok (.iload 5, 2) := by decide +kernel
theorem dX7_isUtf8_40 : decode cX7_isUtf8 40 = .ok (.iload_n 3, 1) := by decide +kernel
theorem dX7_isUtf8_41 : decode cX7_isUtf8 41 = .ok (.if_icmp .le 5, 3) := by decide +kernel
theorem dX7_isUtf8_44 : decode cX7_isUtf8 44 = .ok (.iconst 0, 1) := by decide +kernel
theorem dX7_isUtf8_45 : decode cX7_isUtf8 45 = .ok (.ireturn, 1) := by decide +kernel
theorem dX7_isUtf8_46 : decode cX7_isUtf8 46 = .ok (.iinc 1 (-1), 3) := by decide +kernel
theorem dX7_isUtf8_49 : decode cX7_isUtf8 49 = .ok (.sipush 128, 3) := by decide +kernel
theorem dX7_isUtf8_52 : decode cX7_isUtf8 52 = .ok (.istore_n 2, 1) := by decide +kernel
theorem dX7_isUtf8_53 : decode cX7_isUtf8 53 = .ok (.sipush 191, 3) := by decide +kernel
theorem dX7_isUtf8_56 : decode cX7_isUtf8 56 = .ok (.istore_n 3, 1) := by decide +kernel
theorem dX7_isUtf8_57 : decode cX7_isUtf8 57 = .ok (.goto 132, 3) := by decide +kernel
theorem dX7_isUtf8_60 : decode cX7_isUtf8 60 = .ok (.iload 5, 2) := by decide +kernel
theorem dX7_isUtf8_62 : decode cX7_isUtf8 62 = .ok (.ifCond .eq 27, 3) := by decide +kernel
theorem dX7_isUtf8_65 : decode cX7_isUtf8 65 = .ok (.iload 5, 2) := by decide +kernel
theorem dX7_isUtf8_67 : decode cX7_isUtf8 67 = .ok (.sipush 128, 3) := by decide +kernel
theorem dX7_isUtf8_70 : decode cX7_isUtf8 70 = .ok (.if_icmp .lt 11, 3) := by decide +kernel
theorem dX7_isUtf8_73 : decode cX7_isUtf8 73 = .ok (.iload 5, 2) := by decide +kernel
theorem dX7_isUtf8_75 : decode cX7_isUtf8 75 = .ok (.sipush 194, 3) := by decide +kernel
theorem dX7_isUtf8_78 : decode cX7_isUtf8 78 = .ok (.if_icmp .lt 11, 3) := by decide +kernel
theorem dX7_isUtf8_81 : decode cX7_isUtf8 81 = .ok (.iload 5, 2) := by decide +kernel
theorem dX7_isUtf8_83 : decode cX7_isUtf8 83 = .ok (.sipush 244, 3) := by decide +kernel
theorem dX7_isUtf8_86 : decode cX7_isUtf8 86 = .ok (.if_icmp .le 5, 3) := by decide +kernel
theorem dX7_isUtf8_89 : decode cX7_isUtf8 89 = .ok (.iconst 0, 1) := by decide +kernel
theorem dX7_isUtf8_90 : decode cX7_isUtf8 90 = .ok (.ireturn, 1) := by decide +kernel
theorem dX7_isUtf8_91 : decode cX7_isUtf8 91 = .ok (.iload 5, 2) := by decide +kernel
theorem dX7_isUtf8_93 : decode cX7_isUtf8 93 = .ok (.sipush 128, 3) := by decide +kernel
theorem dX7_isUtf8_96 : decode cX7_isUtf8 96 = .ok (.if_icmp .lt 93, 3) := by decide +kernel
theorem dX7_isUtf8_99 : decode cX7_isUtf8 99 = .ok (.iload 5, 2) := by decide +kernel
theorem dX7_isUtf8_101 : decode cX7_isUtf8 101 = .ok (.sipush 224, 3) := by decide +kernel
theorem dX7_isUtf8_104 : decode cX7_isUtf8 104 = .ok (.if_icmp .ge 7, 3) := by decide +kernel
theorem dX7_isUtf8_107 : decode cX7_isUtf8 107 = .ok (.iconst 1, 1) := by decide +kernel
theorem dX7_isUtf8_108 : decode cX7_isUtf8 108 = .ok (.goto 16, 3) := by decide +kernel
theorem dX7_isUtf8_111 : decode cX7_isUtf8 111 = .ok (.iload 5, 2) := by decide +kernel
theorem dX7_isUtf8_113 : decode cX7_isUtf8 113 = .ok (.sipush 240, 3) := by decide +kernel
theorem dX7_isUtf8_116 : decode cX7_isUtf8 116 = .ok (.if_icmp .ge 7, 3) := by decide +kernel
theorem dX7_isUtf8_119 : decode cX7_isUtf8 119 = .ok (.iconst 2, 1) := by decide +kernel
theorem dX7_isUtf8_120 : decode cX7_isUtf8 120 = .ok (.goto 4, 3) := by decide +kernel
theorem dX7_isUtf8_123 : decode cX7_isUtf8 123 = .ok (.iconst 3, 1) := by decide +kernel
theorem dX7_isUtf8_124 : decode cX7_isUtf8 124 = .ok (.istore_n 1, 1) := by decide +kernel
theorem dX7_isUtf8_125 : decode cX7_isUtf8 125 = .ok (.iload 5, 2) := by decide +kernel
theorem dX7_isUtf8_127 : decode cX7_isUtf8 127 = .ok (.sipush 224, 3) := by decide +kernel
theorem dX7_isUtf8_130 : decode cX7_isUtf8 130 = .ok (.if_icmp .ne 9, 3) := by decide +kernel
theorem dX7_isUtf8_133 : decode cX7_isUtf8 133 = .ok (.sipush 160, 3) := by decide +kernel
theorem dX7_isUtf8_136 : decode cX7_isUtf8 136 = .ok (.goto 20, 3) := by decide +kernel
theorem dX7_isUtf8_139 : decode cX7_isUtf8 139 = .ok (.iload 5, 2) := by decide +kernel
theorem dX7_isUtf8_141 : decode cX7_isUtf8 141 = .ok (.sipush 240, 3) := by decide +kernel
theorem dX7_isUtf8_144 : decode cX7_isUtf8 144 = .ok (.if_icmp .ne 9, 3) := by decide +kernel
theorem dX7_isUtf8_147 : decode cX7_isUtf8 147 = .ok (.sipush 144, 3) := by decide +kernel
theorem dX7_isUtf8_150 : decode cX7_isUtf8 150 = .ok (.goto 6, 3) := by decide +kernel
theorem dX7_isUtf8_153 : decode cX7_isUtf8 153 = .ok (.sipush 128, 3) := by decide +kernel
theorem dX7_isUtf8_156 : decode cX7_isUtf8 156 = .ok (.istore_n 2, 1) := by decide +kernel
theorem dX7_isUtf8_157 : decode cX7_isUtf8 157 = .ok (.iload 5, 2) := by decide +kernel
theorem dX7_isUtf8_159 : decode cX7_isUtf8 159 = .ok (.sipush 237, 3) := by decide +kernel
theorem dX7_isUtf8_162 : decode cX7_isUtf8 162 = .ok (.if_icmp .ne 9, 3) := by decide +kernel
theorem dX7_isUtf8_165 : decode cX7_isUtf8 165 = .ok (.sipush 159, 3) := by decide +kernel
theorem dX7_isUtf8_168 : decode cX7_isUtf8 168 = .ok (.goto 20, 3) := by decide +kernel
theorem dX7_isUtf8_171 : decode cX7_isUtf8 171 = .ok (.iload 5, 2) := by decide +kernel
theorem dX7_isUtf8_173 : decode cX7_isUtf8 173 = .ok (.sipush 244, 3) := by decide +kernel
theorem dX7_isUtf8_176 : decode cX7_isUtf8 176 = .ok (.if_icmp .ne 9, 3) := by decide +kernel
theorem dX7_isUtf8_179 : decode cX7_isUtf8 179 = .ok (.sipush 143, 3) := by decide +kernel
theorem dX7_isUtf8_182 : decode cX7_isUtf8 182 = .ok (.goto 6, 3) := by decide +kernel
theorem dX7_isUtf8_185 : decode cX7_isUtf8 185 = .ok (.sipush 191, 3) := by decide +kernel
theorem dX7_isUtf8_188 : decode cX7_isUtf8 188 = .ok (.istore_n 3, 1) := by decide +kernel
theorem dX7_isUtf8_189 : decode cX7_isUtf8 189 = .ok (.iinc 4 1, 3) := by decide +kernel
theorem dX7_isUtf8_192 : decode cX7_isUtf8 192 = .ok (.goto (-183), 3) := by decide +kernel
theorem dX7_isUtf8_195 : decode cX7_isUtf8 195 = .ok (.iload_n 1, 1) := by decide +kernel
theorem dX7_isUtf8_196 : decode cX7_isUtf8 196 = .ok (.ifCond .ne 7, 3) := by decide +kernel
theorem dX7_isUtf8_199 : decode cX7_isUtf8 199 = .ok (.iconst 1, 1) := by decide +kernel
theorem dX7_isUtf8_200 : decode cX7_isUtf8 200 = .ok (.goto 4, 3) := by decide +kernel
theorem dX7_isUtf8_203 : decode cX7_isUtf8 203 = .ok (.iconst 0, 1) := by decide +kernel
theorem dX7_isUtf8_204 : decode cX7_isUtf8 204 = .ok (.ireturn, 1) := by decide +kernel
theorem dX7_isTopic_0 : decode cX7_isTopic 0 = .ok (.iconst 0, 1) := by decide +kernel
theorem dX7_isTopic_1 : decode cX7_isTopic 1 = .ok (.istore_n 1, 1) := by decide +kernel
theorem dX7_isTopic_2 : decode cX7_isTopic 2 = .ok (.iload_n 1, 1) := by decide +kernel
theorem dX7_isTopic_3 : decode cX7_isTopic 3 = .ok (.aload_n 0, 1) := by decide +kernel
theorem dX7_isTopic_4 : decode cX7_isTopic 4 = .ok (.getfield 9, 3) := by decide +kernel
theorem dX7_isTopic_7 : decode cX7_isTopic 7 = .ok (.arraylength, 1) := by decide +kernel
theorem dX7_isTopic_8 : decode cX7_isTopic 8 = .ok (.if_icmp .ge 33, 3) := by decide +kernel
theorem dX7_isTopic_11 : decode cX7_isTopic 11 = .ok (.aload_n 0, 1) := by decide +kernel
theorem dX7_isTopic_12 : decode cX7_isTopic 12 = .ok (.getfield 9, 3) := by decide +kernel
theorem dX7_isTopic_15 : decode cX7_isTopic 15 = .ok (.iload_n 1, 1) := by decide +kernel
theorem dX7_isTopic_16 : decode cX7_isTopic 16 = .ok (.iaload, 1) := by decide +kernel
theorem dX7_isTopic_17 : decode cX7_isTopic 17 = .ok (.bipush 43, 2) := by decide +kernel
theorem dX7_isTopic_19 : decode cX7_isTopic 19 = .ok (.if_icmp .eq 14, 3) := by decide +kernel
theorem dX7_isTopic_22 : decode cX7_isTopic 22 = .ok (.aload_n 0, 1) := by decide +kernel
theorem dX7_isTopic_23 : decode cX7_isTopic 23 = .ok (.getfield 9, 3) := by decide +kernel
theorem dX7_isTopic_26 : decode cX7_isTopic 26 = .ok (.iload_n 1, 1) := by decide +kernel
theorem dX7_isTopic_27 : decode cX7_isTopic 27 = .ok (.iaload, 1) := by decide +kernel
theorem dX7_isTopic_28 : decode cX7_isTopic 28 = .ok (.bipush 35, 2) := by decide +kernel
theorem dX7_isTopic_30 : decode cX7_isTopic 30 = .ok (.if_icmp .ne 5, 3) := by decide +kernel
theorem dX7_isTopic_33 : decode cX7_isTopic 33 = .ok (.iconst 0, 1) := by decide +kernel
theorem dX7_isTopic_34 : decode cX7_isTopic 34 = .ok (.ireturn, 1) := by decide +kernel
theorem dX7_isTopic_35 : decode cX7_isTopic 35 = .ok (.iinc 1 1, 3) := by decide +kernel
theorem dX7_isTopic_38 : decode cX7_isTopic 38 = .ok (.goto (-36), 3) := by decide +kernel
theorem dX7_isTopic_41 : decode cX7_isTopic 41 = .ok (.aload_n 0, 1) := by decide +kernel
theorem dX7_isTopic_42 : decode cX7_isTopic 42 = .ok (.getfield 9, 3) := by decide +kernel
theorem dX7_isTopic_45 : decode cX7_isTopic 45 = .ok (.arraylength, 1) := by decide +kernel
theorem dX7_isTopic_46 : decode cX7_isTopic 46 = .ok (.ifCond .le 17, 3) := by decide +kernel
theorem dX7_isTopic_49 : decode cX7_isTopic 49 = .ok (.aload_n 0, 1) := by decide +kernel
theorem dX7_isTopic_50 : decode cX7_isTopic 50 = .ok (.getfield 9, 3) := by decide +kernel
theorem dX7_isTopic_53 : decode cX7_isTopic 53 = .ok (.arraylength, 1) := by decide +kernel
theorem dX7_isTopic_54 : decode cX7_isTopic 54 = .ok (.bipush 64, 2) := by decide +kernel
theorem dX7_isTopic_56 : decode cX7_isTopic 56 = .ok (.if_icmp .gt 7, 3) := by decide +kernel
theorem dX7_isTopic_59 : decode cX7_isTopic 59 = .ok (.iconst 1, 1) := by decide +kernel
theorem dX7_isTopic_60 : decode cX7_isTopic 60 = .ok (.goto 4, 3) := by decide +kernel
theorem dX7_isTopic_63 : decode cX7_isTopic 63 = .ok (.iconst 0, 1) := by decide +kernel
theorem dX7_isTopic_64 : decode cX7_isTopic 64 = .ok (.ireturn, 1) := by decide +kernel
theorem dX7_filterStart_0 : decode cX7_filterStart 0 = .ok (.aload_n 0, 1) := by decide +kernel
theorem dX7_filterStart_1 : decode cX7_filterStart 1 = .ok (.getfield 9, 3) := by decide +kernel
theorem dX7_filterStart_4 : decode cX7_filterStart 4 = .ok (.arraylength, 1) := by decide +kernel
theorem dX7_filterStart_5 : decode cX7_filterStart 5 = .ok (.bipush 64, 2) := by decide +kernel
theorem dX7_filterStart_7 : decode cX7_filterStart 7 = .ok (.if_icmp .le 5, 3) := by decide +kernel
theorem dX7_filterStart_10 : decode cX7_filterStart 10 = .ok (.iconst (-1), 1) := by decide +kernel
theorem dX7_filterStart_11 : decode cX7_filterStart 11 = .ok (.ireturn, 1) := by decide +kernel
theorem dX7_filterStart_12 : decode cX7_filterStart 12 = .ok (.iconst 0, 1) := by decide +kernel
theorem dX7_filterStart_13 : decode cX7_filterStart 13 = .ok (.istore_n 1, 1) := by decide +kernel
theorem dX7_filterStart_14 : decode cX7_filterStart 14 = .ok (.aload_n 0, 1) := by decide +kernel
theorem dX7_filterStart_15 : decode cX7_filterStart 15 = .ok (.iconst 0, 1) := by decide +kernel
theorem dX7_filterStart_16 : decode cX7_filterStart 16 = .ok (.ldc 29, 2) := by decide +kernel
theorem dX7_filterStart_18 : decode cX7_filterStart 18 = .ok (.invokevirtual 31, 3) := by decide +kernel
theorem dX7_filterStart_21 : decode cX7_filterStart 21 = .ok (.ifCond .eq 8, 3) := by decide +kernel
theorem dX7_filterStart_24 : decode cX7_filterStart 24 = .ok (.aload_n 0, 1) := by decide +kernel
theorem dX7_filterStart_25 : decode cX7_filterStart 25 = .ok (.invokevirtual 35, 3) := by decide +kernel
theorem dX7_filterStart_28 : decode cX7_filterStart 28 = .ok (.istore_n 1, 1) := by decide +kernel
theorem dX7_filterStart_29 : decode cX7_filterStart 29 = .ok (.iload_n 1, 1) := by decide +kernel
theorem dX7_filterStart_30 : decode cX7_filterStart 30 = .ok (.iconst (-1), 1) := by decide +kernel
theorem dX7_filterStart_31 : decode cX7_filterStart 31 = .ok (.if_icmp .eq 15, 3) := by decide +kernel
theorem dX7_filterStart_34 : decode cX7_filterStart 34 = .ok (.aload_n 0, 1) := by decide +kernel
theorem dX7_filterStart_35 : decode cX7_filterStart 35 = .ok (.iload_n 1, 1) := by decide +kernel
theorem dX7_filterStart_36 : decode cX7_filterStart 36 = .ok (.invokevirtual 38, 3) := by decide +kernel
theorem dX7_filterStart_39 : decode cX7_filterStart 39 = .ok (.ifCond .eq 7, 3) := by decide +kernel
theorem dX7_filterStart_42 : decode cX7_filterStart 42 = .ok (.iload_n 1, 1) := by decide +kernel
theorem dX7_filterStart_43 : decode cX7_filterStart 43 = .ok (.goto 4, 3) := by decide +kernel
theorem dX7_filterStart_46 : decode cX7_filterStart 46 = .ok (.iconst (-1), 1) := by decide +kernel
theorem dX7_filterStart_47 : decode cX7_filterStart 47 = .ok (.ireturn, 1) := by decide +kernel
theorem dX7_behindName_0 : decode cX7_behindName 0 = .ok (.ldc 29, 2) := by decide +kernel
theorem dX7_behindName_2 : decode cX7_behindName 2 = .ok (.invokevirtual 15, 3) := by decide +kernel
theorem dX7_behindName_5 : decode cX7_behindName 5 = .ok (.istore_n 1, 1) := by decide +kernel
theorem dX7_behindName_6 : decode cX7_behindName 6 = .ok (.iload_n 1, 1) := by decide +kernel
theorem dX7_behindName_7 : decode cX7_behindName 7 = .ok (.istore_n 2, 1) := by decide +kernel
theorem dX7_behindName_8 : decode cX7_behindName 8 = .ok (.iload_n 2, 1) := by decide +kernel
theorem dX7_behindName_9 : decode cX7_behindName 9 = .ok (.aload_n 0, 1) := by decide +kernel
theorem dX7_behindName_10 : decode cX7_behindName 10 = .ok (.getfield 9, 3) := by decide +kernel
theorem dX7_behindName_13 : decode cX7_behindName 13 = .ok (.arraylength, 1) := by decide +kernel
theorem dX7_behindName_14 : decode cX7_behindName 14 = .ok (.if_icmp .ge 69, 3) := by decide +kernel
theorem dX7_behindName_17 : decode cX7_behindName 17 = .ok (.aload_n 0, 1) := by decide +kernel
theorem dX7_behindName_18 : decode cX7_behindName 18 = .ok (.getfield 9, 3) := by decide +kernel
theorem dX7_behindName_21 : decode cX7_behindName 21 = .ok (.iload_n 2, 1) := by decide +kernel
theorem dX7_behindName_22 : decode cX7_behindName 22 = .ok (.iaload, 1) := by decide +kernel
theorem dX7_behindName_23 : decode cX7_behindName 23 = .ok (.bipush 47, 2) := by decide +kernel
theorem dX7_behindName_25 : decode cX7_behindName 25 = .ok (.if_icmp .ne 28, 3) := by decide +kernel
theorem dX7_behindName_28 : decode cX7_behindName 28 = .ok (.iload_n 2, 1) := by decide +kernel
theorem dX7_behindName_29 : decode cX7_behindName 29 = .ok (.iload_n 1, 1) := by decide +kernel
theorem dX7_behindName_30 : decode cX7_behindName 30 = .ok (.if_icmp .eq 15, 3) := by decide +kernel
theorem dX7_behindName_33 : decode cX7_behindName 33 = .ok (.aload_n 0, 1) := by decide +kernel
theorem dX7_behindName_34 : decode cX7_behindName 34 = .ok (.iload_n 2, 1) := by decide +kernel
theorem dX7_behindName_35 : decode cX7_behindName 35 = .ok (.iconst 1, 1) := by decide +kernel
theorem dX7_behindName_36 : decode cX7_behindName 36 = .ok (.iadd, 1) := by decide +kernel
theorem dX7_behindName_37 : decode cX7_behindName 37 = .ok (.ldc 29, 2) := by decide +kernel
theorem dX7_behindName_39 : decode cX7_behindName 39 = .ok (.invokevirtual 31, 3) := by decide +kernel
theorem dX7_behindName_42 : decode cX7_behindName 42 = .ok (.ifCond .eq 7, 3) := by decide +kernel
theorem dX7_behindName_45 : decode cX7_behindName 45 = .ok (.iconst (-1), 1) := by decide +kernel
theorem dX7_behindName_46 : decode cX7_behindName 46 = .ok (.goto 6, 3) := by decide +kernel
theorem dX7_behindName_49 : decode cX7_behindName 49 = .ok (.iload_n 2, 1) := by decide +kernel
theorem dX7_behindName_50 : decode cX7_behindName 50 = .ok (.iconst 1, 1) := by decide +kernel
theorem dX7_behindName_51 : decode cX7_behindName 51 = .ok (.iadd, 1) := by decide +kernel
theorem dX7_behindName_52 : decode cX7_behindName 52 = .ok (.ireturn, 1) := by decide +kernel
theorem dX7_behindName_53 : decode cX7_behindName 53 = .ok (.aload_n 0, 1) := by decide +kernel
theorem dX7_behindName_54 : decode cX7_behindName 54 = .ok (.getfield 9, 3) := by decide +kernel
theorem dX7_behindName_57 : decode cX7_behindName 57 = .ok (.iload_n 2, 1) := by decide +kernel
theorem dX7_behindName_58 : decode cX7_behindName 58 = .ok (.iaload, 1) := by decide +kernel
theorem dX7_behindName_59 : decode cX7_behindName 59 = .ok (.bipush 43, 2) := by decide +kernel
theorem dX7_behindName_61 : decode cX7_behindName 61 = .ok (.if_icmp .eq 14, 3) := by decide +kernel
theorem dX7_behindName_64 : decode cX7_behindName 64 = .ok (.aload_n 0, 1) := by decide +kernel
theorem dX7_behindName_65 : decode cX7_behindName 65 = .ok (.getfield 9, 3) := by decide +kernel
theorem dX7_behindName_68 : decode cX7_behindName 68 = .ok (.iload_n 2, 1) := by decide +kernel
theorem dX7_behindName_69 : decode cX7_behindName 69 = .ok (.iaload, 1) := by decide +kernel
theorem dX7_behindName_70 : decode cX7_behindName 70 = .ok (.bipush 35, 2) := by decide +kernel
theorem dX7_behindName_72 : decode cX7_behindName 72 = .ok (.if_icmp .ne 5, 3) := by decide +kernel
theorem dX7_behindName_75 : decode cX7_behindName 75 = .ok (.iconst (-1), 1) := by decide +kernel
theorem dX7_behindName_76 : decode cX7_behindName 76 = .ok (.ireturn, 1) := by decide +kernel
theorem dX7_behindName_77 : decode cX7_behindName 77 = .ok (.iinc 2 1, 3) := by decide +kernel
theorem dX7_behindName_80 : decode cX7_behindName 80 = .ok (.goto (-72), 3) := by decide +kernel
theorem dX7_behindName_83 : decode cX7_behindName 83 = .ok (.iconst (-1), 1) := by decide +kernel
theorem dX7_behindName_84 : decode cX7_behindName 84 = .ok (.ireturn, 1) := by decide +kernel
theorem dX7_hasLevels_0 : decode cX7_hasLevels 0 = .ok (.iload_n 1, 1) := by decide +kernel
theorem dX7_hasLevels_1 : decode cX7_hasLevels 1 = .ok (.istore_n 2, 1) := by decide +kernel
theorem dX7_hasLevels_2 : decode cX7_hasLevels 2 = .ok (.iload_n 2, 1) := by decide +kernel
theorem dX7_hasLevels_3 : decode cX7_hasLevels 3 = .ok (.aload_n 0, 1) := by decide +kernel
theorem dX7_hasLevels_4 : decode cX7_hasLevels 4 = .ok (.getfield 9, 3) := by decide +kernel
theorem dX7_hasLevels_7 : decode cX7_hasLevels 7 = .ok (.arraylength, 1) := by decide +kernel
theorem dX7_hasLevels_8 : decode cX7_hasLevels 8 = .ok (.if_icmp .ge 109, 3) := by decide +kernel
theorem dX7_hasLevels_11 : decode cX7_hasLevels 11 = .ok (.aload_n 0, 1) := by decide +kernel
theorem dX7_hasLevels_12 : decode cX7_hasLevels 12 = .ok (.getfield 9, 3) := by decide +kernel
theorem dX7_hasLevels_15 : decode cX7_hasLevels 15 = .ok (.iload_n 2, 1) := by decide +kernel
theorem dX7_hasLevels_16 : decode cX7_hasLevels 16 = .ok (.iaload, 1) := by decide +kernel
theorem dX7_hasLevels_17 : decode cX7_hasLevels 17 = .ok (.bipush 43, 2) := by decide +kernel
theorem dX7_hasLevels_19 : decode cX7_hasLevels 19 = .ok (.if_icmp .eq 17, 3) := by decide +kernel
theorem dX7_hasLevels_22 : decode cX7_hasLevels 22 = .ok (.aload_n 0, 1) := by decide +kernel
theorem dX7_hasLevels_23 : decode cX7_hasLevels 23 = .ok (.getfield 9, 3) := by decide +kernel
theorem dX7_hasLevels_26 : decode cX7_hasLevels 26 = .ok (.iload_n 2, 1) := by decide +kernel
theorem dX7_hasLevels_27 : decode cX7_hasLevels 27 = .ok (.iaload, 1) := by decide +kernel
theorem dX7_hasLevels_28 : decode cX7_hasLevels 28 = .ok (.bipush 35, 2) := by decide +kernel
theorem dX7_hasLevels_30 : decode cX7_hasLevels 30 = .ok (.if_icmp .eq 6, 3) := by decide +kernel
theorem dX7_hasLevels_33 : decode cX7_hasLevels 33 = .ok (.goto 78, 3) := by decide +kernel
theorem dX7_hasLevels_36 : decode cX7_hasLevels 36 = .ok (.iload_n 2, 1) := by decide +kernel
theorem dX7_hasLevels_37 : decode cX7_hasLevels 37 = .ok (.iload_n 1, 1) := by decide +kernel
theorem dX7_hasLevels_38 : decode cX7_hasLevels 38 = .ok (.if_icmp .eq 15, 3) := by decide +kernel
theorem dX7_hasLevels_41 : decode cX7_hasLevels 41 = .ok (.aload_n 0, 1) := by decide +kernel
theorem dX7_hasLevels_42 : decode cX7_hasLevels 42 = .ok (.iload_n 2, 1) := by decide +kernel
theorem dX7_hasLevels_43 : decode cX7_hasLevels 43 = .ok (.iconst 1, 1) := by decide +kernel
theorem dX7_hasLevels_44 : decode cX7_hasLevels 44 = .ok (.isub, 1) := by decide +kernel
theorem dX7_hasLevels_45 : decode cX7_hasLevels 45 = .ok (.invokevirtual 21, 3) := by decide +kernel
theorem dX7_hasLevels_48 : decode cX7_hasLevels 48 = .ok (.bipush 47, 2) := by decide +kernel
theorem dX7_hasLevels_50 : decode cX7_hasLevels 50 = .ok (.if_icmp .ne 7, 3) := by decide +kernel
theorem dX7_hasLevels_53 : decode cX7_hasLevels 53 = .ok (.iconst 1, 1) := by decide +kernel
theorem dX7_hasLevels_54 : decode cX7_hasLevels 54 = .ok (.goto 4, 3) := by decide +kernel
theorem dX7_hasLevels_57 : decode cX7_hasLevels 57 = .ok (.iconst 0, 1) := by decide +kernel
theorem dX7_hasLevels_58 : decode cX7_hasLevels 58 = .ok (.istore_n 3, 1) := by decide +kernel
theorem dX7_hasLevels_59 : decode cX7_hasLevels 59 = .ok (.iload_n 2, 1) := by decide +kernel
theorem dX7_hasLevels_60 : decode cX7_hasLevels 60 = .ok (.aload_n 0, 1) := by decide +kernel
theorem dX7_hasLevels_61 : decode cX7_hasLevels 61 = .ok (.getfield 9, 3) := by decide +kernel
theorem dX7_hasLevels_64 : decode cX7_hasLevels 64 = .ok (.arraylength, 1) := by decide +kernel
theorem dX7_hasLevels_65 : decode cX7_hasLevels 65 = .ok (.iconst 1, 1) := by decide +kernel
theorem dX7_hasLevels_66 : decode cX7_hasLevels 66 = .ok (.isub, 1) := by decide +kernel
theorem dX7_hasLevels_67 : decode cX7_hasLevels 67 = .ok (.if_icmp .eq 26, 3) := by decide +kernel
theorem dX7_hasLevels_70 : decode cX7_hasLevels 70 = .ok (.aload_n 0, 1) := by decide +kernel
theorem dX7_hasLevels_71 : decode cX7_hasLevels 71 = .ok (.getfield 9, 3) := by decide +kernel
theorem dX7_hasLevels_74 : decode cX7_hasLevels 74 = .ok (.iload_n 2, 1) := by decide +kernel
theorem dX7_hasLevels_75 : decode cX7_hasLevels 75 = .ok (.iaload, 1) := by decide +kernel
theorem dX7_hasLevels_76 : decode cX7_hasLevels 76 = .ok (.bipush 43, 2) := by decide +kernel
theorem dX7_hasLevels_78 : decode cX7_hasLevels 78 = .ok (.if_icmp .ne 19, 3) := by decide +kernel
theorem dX7_hasLevels_81 : decode cX7_hasLevels 81 = .ok (.aload_n 0, 1) := by decide +kernel
theorem dX7_hasLevels_82 : decode cX7_hasLevels 82 = .ok (.iload_n 2, 1) := by decide +kernel
theorem dX7_hasLevels_83 : decode cX7_hasLevels 83 = .ok (.iconst 1, 1) := by decide +kernel
theorem dX7_hasLevels_84 : decode cX7_hasLevels 84 = .ok (.iadd, 1) := by decide +kernel
theorem dX7_hasLevels_85 : decode cX7_hasLevels 85 = .ok (.invokevirtual 21, 3) := by decide +kernel
theorem dX7_hasLevels_88 : decode cX7_hasLevels 88 = .ok (.bipush 47, 2) := by decide +kernel
theorem dX7_hasLevels_90 : decode cX7_hasLevels 90 = .ok (.if_icmp .ne 7, 3) := by decide +kernel
theorem dX7_hasLevels_93 : decode cX7_hasLevels 93 = .ok (.iconst 1, 1) := by decide +kernel
theorem dX7_hasLevels_94 : decode cX7_hasLevels 94 = .ok (.goto 4, 3) := by decide +kernel
theorem dX7_hasLevels_97 : decode cX7_hasLevels 97 = .ok (.iconst 0, 1) := by decide +kernel
theorem dX7_hasLevels_98 : decode cX7_hasLevels 98 = .ok (.istore 4, 2) := by decide +kernel
theorem dX7_hasLevels_100 : decode cX7_hasLevels 100 = .ok (.iload_n 3, 1) := by decide +kernel
theorem dX7_hasLevels_101 : decode cX7_hasLevels 101 = .ok (.ifCond .eq 8, 3) := by decide +kernel
theorem dX7_hasLevels_104 : decode cX7_hasLevels 104 = .ok (.iload 4, 2) := by decide +kernel
theorem dX7_hasLevels_106 : decode cX7_hasLevels 106 = .ok (.ifCond .ne 5, 3) := by decide +kernel
theorem dX7_hasLevels_109 : decode cX7_hasLevels 109 = .ok (.iconst 0, 1) := by decide +kernel
theorem dX7_hasLevels_110 : decode cX7_hasLevels 110 = .ok (.ireturn, 1) := by decide +kernel
theorem dX7_hasLevels_111 : decode cX7_hasLevels 111 = .ok (.iinc 2 1, 3) := by decide +kernel
theorem dX7_hasLevels_114 : decode cX7_hasLevels 114 = .ok (.goto (-112), 3) := by decide +kernel
theorem dX7_hasLevels_117 : decode cX7_hasLevels 117 = .ok (.iload_n 1, 1) := by decide +kernel
theorem dX7_hasLevels_118 : decode cX7_hasLevels 118 = .ok (.aload_n 0, 1) := by decide +kernel
theorem dX7_hasLevels_119 : decode cX7_hasLevels 119 = .ok (.getfield 9, 3) := by decide +kernel
theorem dX7_hasLevels_122 : decode cX7_hasLevels 122 = .ok (.arraylength, 1) := by decide +kernel
theorem dX7_hasLevels_123 : decode cX7_hasLevels 123 = .ok (.if_icmp .ge 7, 3) := by decide +kernel
theorem dX7_hasLevels_126 : decode cX7_hasLevels 126 = .ok (.iconst 1, 1) := by decide +kernel
theorem dX7_hasLevels_127 : decode cX7_hasLevels 127 = .ok (.goto 4, 3) := by decide +kernel
theorem dX7_hasLevels_130 : decode cX7_hasLevels 130 = .ok (.iconst 0, 1) := by decide +kernel
theorem dX7_hasLevels_131 : decode cX7_hasLevels 131 = .ok (.ireturn, 1) := by decide +kernel
theorem dX8_init_0 : decode cX8_init 0 = .ok (.aload_n 0, 1) := by decide +kernel
theorem dX8_init_1 : decode cX8_init 1 = .ok (.invokespecial 3, 3) := by decide +kernel
theorem dX8_init_4 : decode cX8_init 4 = .ok (.aload_n 0, 1) := by decide +kernel
theorem dX8_init_5 : decode cX8_init 5 = .ok (.bipush 8, 2) := by decide +kernel
theorem dX8_init_7 : decode cX8_init 7 = .ok (.anewarray 9, 3) := by decide +kernel
theorem dX8_init_10 : decode cX8_init 10 = .ok (.putfield 11, 3) := by decide +kernel
theorem dX8_init_13 : decode cX8_init 13 = .ok (.aload_n 0, 1) := by decide +kernel
theorem dX8_init_14 : decode cX8_init 14 = .ok (.bipush 16, 2) := by decide +kernel
theorem dX8_init_16 : decode cX8_init 16 = .ok (.anewarray 17, 3) := by decide +kernel
theorem dX8_init_19 : decode cX8_init 19 = .ok (.putfield 19, 3) := by decide +kernel
theorem dX8_init_22 : decode cX8_init 22 = .ok (.aload_n 0, 1) := by decide +kernel
theorem dX8_init_23 : decode cX8_init 23 = .ok (.bipush 24, 2) := by decide +kernel
theorem dX8_init_25 : decode cX8_init 25 = .ok (.anewarray 17, 3) := by decide +kernel
theorem dX8_init_28 : decode cX8_init 28 = .ok (.putfield 23, 3) := by decide +kernel
theorem dX8_init_31 : decode cX8_init 31 = .ok (.aload_n 0, 1) := by decide +kernel
theorem dX8_init_32 : decode cX8_init 32 = .ok (.bipush 8, 2) := by decide +kernel
theorem dX8_init_34 : decode cX8_init 34 = .ok (.newarray .int, 2) := by decide +kernel
theorem dX8_init_36 : decode cX8_init 36 = .ok (.putfield 26, 3) := by decide +kernel
theorem dX8_init_39 : decode cX8_init 39 = .ok (.aload_n 0, 1) := by decide +kernel
theorem dX8_init_40 : decode cX8_init 40 = .ok (.iload_n 1, 1) := by decide +kernel
theorem dX8_init_41 : decode cX8_init 41 = .ok (.putfield 30, 3) := by decide +kernel
theorem dX8_init_44 : decode cX8_init 44 = .ok (.aload_n 0, 1) := by decide +kernel
theorem dX8_init_45 : decode cX8_init 45 = .ok (.aload_n 2, 1) := by decide +kernel
theorem dX8_init_46 : decode cX8_init 46 = .ok (.putfield 34, 3) := by decide +kernel
theorem dX8_init_49 : decode cX8_init 49 = .ok (.return_, 1) := by decide +kernel
theorem dX8_indexOf_0 : decode cX8_indexOf 0 = .ok (.iconst 0, 1) := by decide +kernel
theorem dX8_indexOf_1 : decode cX8_indexOf 1 = .ok (.istore_n 2, 1) := by decide +kernel
theorem dX8_indexOf_2 : decode cX8_indexOf 2 = .ok (.iload_n 2, 1) := by decide +kernel
theorem dX8_indexOf_3 : decode cX8_indexOf 3 = .ok (.aload_n 0, 1) := by decide +kernel
theorem dX8_indexOf_4 : decode cX8_indexOf 4 = .ok (.getfield 38, 3) := by decide +kernel
theorem dX8_indexOf_7 : decode cX8_indexOf 7 = .ok (.if_icmp .ge 27, 3) := by decide +kernel
theorem dX8_indexOf_10 : decode cX8_indexOf 10 = .ok (.aload_n 0, 1) := by decide +kernel
theorem dX8_indexOf_11 : decode cX8_indexOf 11 = .ok (.getfield 11, 3) := by decide +kernel
theorem dX8_indexOf_14 : decode cX8_indexOf 14 = .ok (.iload_n 2, 1) := by decide +kernel
theorem dX8_indexOf_15 : decode cX8_indexOf 15 = .ok (.aaload, 1) := by decide +kernel
theorem dX8_indexOf_16 : decode cX8_indexOf 16 = .ok (.getfield 41, 3) := by decide +kernel
theorem dX8_indexOf_19 : decode cX8_indexOf 19 = .ok (.aload_n 1, 1) := by decide +kernel
theorem dX8_indexOf_20 : decode cX8_indexOf 20 = .ok (.invokevirtual 44, 3) := by decide +kernel
theorem dX8_indexOf_23 : decode cX8_indexOf 23 = .ok (.ifCond .eq 5, 3) := by decide +kernel
theorem dX8_indexOf_26 : decode cX8_indexOf 26 = .ok (.iload_n 2, 1) := by decide +kernel
theorem dX8_indexOf_27 : decode cX8_indexOf 27 = .ok (.ireturn, 1) := by decide +kernel
theorem dX8_indexOf_28 : decode cX8_indexOf 28 = .ok (.iinc 2 1, 3) := by decide +kernel
theorem dX8_indexOf_31 : decode cX8_indexOf 31 = .ok (.goto (-29), 3) := by decide +kernel
theorem dX8_indexOf_34 : decode cX8_indexOf 34 = .ok (.iconst (-1), 1) := by decide +kernel
theorem dX8_indexOf_35 : decode cX8_indexOf 35 = .ok (.ireturn, 1) := by decide +kernel
theorem dX8_owes_0 : decode cX8_owes 0 = .ok (.aload_n 0, 1) := by decide +kernel
theorem dX8_owes_1 : decode cX8_owes 1 = .ok (.aload_n 1, 1) := by decide +kernel
theorem dX8_owes_2 : decode cX8_owes 2 = .ok (.invokevirtual 50, 3) := by decide +kernel
theorem dX8_owes_5 : decode cX8_owes 5 = .ok (.istore_n 3, 1) := by decide +kernel
theorem dX8_owes_6 : decode cX8_owes 6 = .ok (.iload_n 2, 1) := by decide +kernel
theorem dX8_owes_7 : decode cX8_owes 7 = .ok (.iconst 4, 1) := by decide +kernel
theorem dX8_owes_8 : decode cX8_owes 8 = .ok (.ishr, 1) := by decide +kernel
theorem dX8_owes_9 : decode cX8_owes 9 = .ok (.istore 4, 2) := by decide +kernel
theorem dX8_owes_11 : decode cX8_owes 11 = .ok (.iload 4, 2) := by decide +kernel
theorem dX8_owes_13 : decode cX8_owes 13 = .ok (.ifCond .eq 14, 3) := by decide +kernel
theorem dX8_owes_16 : decode cX8_owes 16 = .ok (.iload 4, 2) := by decide +kernel
theorem dX8_owes_18 : decode cX8_owes 18 = .ok (.iconst 1, 1) := by decide +kernel
theorem dX8_owes_19 : decode cX8_owes 19 = .ok (.if_icmp .ne 12, 3) := by decide +kernel
theorem dX8_owes_22 : decode cX8_owes 22 = .ok (.iload_n 3, 1) := by decide +kernel
theorem dX8_owes_23 : decode cX8_owes 23 = .ok (.iconst (-1), 1) := by decide +kernel
theorem dX8_owes_24 : decode cX8_owes 24 = .ok (.if_icmp .ne 7, 3) := by decide +kernel
theorem dX8_owes_27 : decode cX8_owes 27 = .ok (.iconst 1, 1) := by decide +kernel
theorem dX8_owes_28 : decode cX8_owes 28 = .ok (.goto 4, 3) := by decide +kernel
theorem dX8_owes_31 : decode cX8_owes 31 = .ok (.iconst 0, 1) := by decide +kernel
theorem dX8_owes_32 : decode cX8_owes 32 = .ok (.istore 5, 2) := by decide +kernel
theorem dX8_owes_34 : decode cX8_owes 34 = .ok (.iload 5, 2) := by decide +kernel
theorem dX8_owes_36 : decode cX8_owes 36 = .ok (.ifCond .eq 10, 3) := by decide +kernel
theorem dX8_owes_39 : decode cX8_owes 39 = .ok (.aload_n 1, 1) := by decide +kernel
theorem dX8_owes_40 : decode cX8_owes 40 = .ok (.invokevirtual 54, 3) := by decide +kernel
theorem dX8_owes_43 : decode cX8_owes 43 = .ok (.ifCond .eq 5, 3) := by decide +kernel
theorem dX8_owes_46 : decode cX8_owes 46 = .ok (.iconst (-1), 1) := by decide +kernel
theorem dX8_owes_47 : decode cX8_owes 47 = .ok (.ireturn, 1) := by decide +kernel
theorem dX8_owes_48 : decode cX8_owes 48 = .ok (.iload_n 3, 1) := by decide +kernel
theorem dX8_owes_49 : decode cX8_owes 49 = .ok (.iconst (-1), 1) := by decide +kernel
theorem dX8_owes_50 : decode cX8_owes 50 = .ok (.if_icmp .ne 10, 3) := by decide +kernel
theorem dX8_owes_53 : decode cX8_owes 53 = .ok (.aload_n 0, 1) := by decide +kernel
theorem dX8_owes_54 : decode cX8_owes 54 = .ok (.getfield 38, 3) := by decide +kernel
theorem dX8_owes_57 : decode cX8_owes 57 = .ok (.goto 4, 3) := by decide +kernel
theorem dX8_owes_60 : decode cX8_owes 60 = .ok (.iload_n 3, 1) := by decide +kernel
theorem dX8_owes_61 : decode cX8_owes 61 = .ok (.ireturn, 1) := by decide +kernel
theorem dX8_subscribe_0 : decode cX8_subscribe 0 = .ok (.aload_n 1, 1) := by decide +kernel
theorem dX8_subscribe_1 : decode cX8_subscribe 1 = .ok (.invokevirtual 54, 3) := by decide +kernel
theorem dX8_subscribe_4 : decode cX8_subscribe 4 = .ok (.istore 4, 2) := by decide +kernel
theorem dX8_subscribe_6 : decode cX8_subscribe 6 = .ok (.iload 4, 2) := by decide +kernel
theorem dX8_subscribe_8 : decode cX8_subscribe 8 = .ok (.iconst (-1), 1) := by decide +kernel
theorem dX8_subscribe_9 : decode cX8_subscribe 9 = .ok (.if_icmp .ne 7, 3) := by decide +kernel
theorem dX8_subscribe_12 : decode cX8_subscribe 12 = .ok (.sipush 143, 3) := by decide +kernel
theorem dX8_subscribe_15 : decode cX8_subscribe 15 = .ok (.ireturn, 1) := by decide +kernel
theorem dX8_subscribe_16 : decode cX8_subscribe 16 = .ok (.aload_n 0, 1) := by decide +kernel
theorem dX8_subscribe_17 : decode cX8_subscribe 17 = .ok (.aload_n 1, 1) := by decide +kernel
theorem dX8_subscribe_18 : decode cX8_subscribe 18 = .ok (.invokevirtual 50, 3) := by decide +kernel
theorem dX8_subscribe_21 : decode cX8_subscribe 21 = .ok (.istore 5, 2) := by decide +kernel
theorem dX8_subscribe_23 : decode cX8_subscribe 23 = .ok (.iload 5, 2) := by decide +kernel
theorem dX8_subscribe_25 : decode cX8_subscribe 25 = .ok (.iconst (-1), 1) := by decide +kernel
theorem dX8_subscribe_26 : decode cX8_subscribe 26 = .ok (.if_icmp .ne 16, 3) := by decide +kernel
theorem dX8_subscribe_29 : decode cX8_subscribe 29 = .ok (.aload_n 0, 1) := by decide +kernel
theorem dX8_subscribe_30 : decode cX8_subscribe 30 = .ok (.getfield 38, 3) := by decide +kernel
theorem dX8_subscribe_33 : decode cX8_subscribe 33 = .ok (.bipush 8, 2) := by decide +kernel
theorem dX8_subscribe_35 : decode cX8_subscribe 35 = .ok (.if_icmp .ne 7, 3) := by decide +kernel
theorem dX8_subscribe_38 : decode cX8_subscribe 38 = .ok (.sipush 151, 3) := by decide +kernel
theorem dX8_subscribe_41 : decode cX8_subscribe 41 = .ok (.ireturn, 1) := by decide +kernel
theorem dX8_subscribe_42 : decode cX8_subscribe 42 = .ok (.iload 5, 2) := by decide +kernel
theorem dX8_subscribe_44 : decode cX8_subscribe 44 = .ok (.iconst (-1), 1) := by decide +kernel
theorem dX8_subscribe_45 : decode cX8_subscribe 45 = .ok (.if_icmp .ne 36, 3) := by decide +kernel
theorem dX8_subscribe_48 : decode cX8_subscribe 48 = .ok (.aload_n 0, 1) := by decide +kernel
theorem dX8_subscribe_49 : decode cX8_subscribe 49 = .ok (.getfield 38, 3) := by decide +kernel
theorem dX8_subscribe_52 : decode cX8_subscribe 52 = .ok (.istore 5, 2) := by decide +kernel
theorem dX8_subscribe_54 : decode cX8_subscribe 54 = .ok (.aload_n 0, 1) := by decide +kernel
theorem dX8_subscribe_55 : decode cX8_subscribe 55 = .ok (.getfield 11, 3) := by decide +kernel
theorem dX8_subscribe_58 : decode cX8_subscribe 58 = .ok (.iload 5, 2) := by decide +kernel
theorem dX8_subscribe_60 : decode cX8_subscribe 60 = .ok (.new 9, 3) := by decide +kernel
theorem dX8_subscribe_63 : decode cX8_subscribe 63 = .ok (.dup, 1) := by decide +kernel
theorem dX8_subscribe_64 : decode cX8_subscribe 64 = .ok (.aload_n 1, 1) := by decide +kernel
theorem dX8_subscribe_65 : decode cX8_subscribe 65 = .ok (.iload 4, 2) := by decide +kernel
theorem dX8_subscribe_67 : decode cX8_subscribe 67 = .ok (.invokespecial 58, 3) := by decide +kernel
theorem dX8_subscribe_70 : decode cX8_subscribe 70 = .ok (.aastore, 1) := by decide +kernel
theorem dX8_subscribe_71 : decode cX8_subscribe 71 = .ok (.aload_n 0, 1) := by decide +kernel
theorem dX8_subscribe_72 : decode cX8_subscribe 72 = .ok (.dup, 1) := by decide +kernel
theorem dX8_subscribe_73 : decode cX8_subscribe 73 = .ok (.getfield 38, 3) := by decide +kernel
theorem dX8_subscribe_76 : decode cX8_subscribe 76 = .ok (.iconst 1, 1) := by decide +kernel
theorem dX8_subscribe_77 : decode cX8_subscribe 77 = .ok (.iadd, 1) := by decide +kernel
theorem dX8_subscribe_78 : decode cX8_subscribe 78 = .ok (.putfield 38, 3) := by decide +kernel
theorem dX8_subscribe_81 : decode cX8_subscribe 81 = .ok (.aload_n 0, 1) := by decide +kernel
theorem dX8_subscribe_82 : decode cX8_subscribe 82 = .ok (.getfield 11, 3) := by decide +kernel
theorem dX8_subscribe_85 : decode cX8_subscribe 85 = .ok (.iload 5, 2) := by decide +kernel
theorem dX8_subscribe_87 : decode cX8_subscribe 87 = .ok (.aaload, 1) := by decide +kernel
theorem dX8_subscribe_88 : decode cX8_subscribe 88 = .ok (.iload_n 2, 1) := by decide +kernel
theorem dX8_subscribe_89 : decode cX8_subscribe 89 = .ok (.putfield 61, 3) := by decide +kernel
theorem dX8_subscribe_92 : decode cX8_subscribe 92 = .ok (.aload_n 0, 1) := by decide +kernel
theorem dX8_subscribe_93 : decode cX8_subscribe 93 = .ok (.getfield 11, 3) := by decide +kernel
theorem dX8_subscribe_96 : decode cX8_subscribe 96 = .ok (.iload 5, 2) := by decide +kernel
theorem dX8_subscribe_98 : decode cX8_subscribe 98 = .ok (.aaload, 1) := by decide +kernel
theorem dX8_subscribe_99 : decode cX8_subscribe 99 = .ok (.iload_n 3, 1) := by decide +kernel
theorem dX8_subscribe_100 : decode cX8_subscribe 100 = .ok (.putfield 64, 3) := by decide +kernel
theorem dX8_subscribe_103 : decode cX8_subscribe 103 = .ok (.iload_n 2, 1) := by decide +kernel
theorem dX8_subscribe_104 : decode cX8_subscribe 104 = .ok (.iconst 3, 1) := by decide +kernel
theorem dX8_subscribe_105 : decode cX8_subscribe 105 = .ok (.iand, 1) := by decide +kernel
theorem dX8_subscribe_106 : decode cX8_subscribe 106 = .ok (.ireturn, 1) := by decide +kernel
theorem dX8_unsubscribe_0 : decode cX8_unsubscribe 0 = .ok (.aload_n 1, 1) := by decide +kernel
theorem dX8_unsubscribe_1 : decode cX8_unsubscribe 1 = .ok (.invokevirtual 54, 3) := by decide +kernel
theorem dX8_unsubscribe_4 : decode cX8_unsubscribe 4 = .ok (.iconst (-1), 1) := by decide +kernel
theorem dX8_unsubscribe_5 : decode cX8_unsubscribe 5 = .ok (.if_icmp .ne 7, 3) := by decide +kernel
theorem dX8_unsubscribe_8 : decode cX8_unsubscribe 8 = .ok (.sipush 143, 3) := by decide +kernel
theorem dX8_unsubscribe_11 : decode cX8_unsubscribe 11 = .ok (.ireturn, 1) := by decide +kernel
theorem dX8_unsubscribe_12 : decode cX8_unsubscribe 12 = .ok (.aload_n 0, 1) := by decide +kernel
theorem dX8_unsubscribe_13 : decode cX8_unsubscribe 13 = .ok (.aload_n 1, 1) := by decide +kernel
theorem dX8_unsubscribe_14 : decode cX8_unsubscribe 14 = .ok (.invokevirtual 50, 3) := by decide +kernel
theorem dX8_unsubscribe_17 : decode cX8_unsubscribe 17 = .ok (.istore_n 2, 1) := by decide +kernel
theorem dX8_unsubscribe_18 : decode cX8_unsubscribe 18 = .ok (.iload_n 2, 1) := by decide +kernel
theorem dX8_unsubscribe_19 : decode cX8_unsubscribe 19 = .ok (.iconst (-1), 1) := by decide +kernel
theorem dX8_unsubscribe_20 : decode cX8_unsubscribe 20 = .ok (.if_icmp .ne 6, 3) := by decide +kernel
theorem dX8_unsubscribe_23 : decode cX8_unsubscribe 23 = .ok (.bipush 17, 2) := by decide +kernel
theorem dX8_unsubscribe_25 : decode cX8_unsubscribe 25 = .ok (.ireturn, 1) := by decide +kernel
theorem dX8_unsubscribe_26 : decode cX8_unsubscribe 26 = .ok (.aload_n 0, 1) := by decide +kernel
theorem dX8_unsubscribe_27 : decode cX8_unsubscribe 27 = .ok (.dup, 1) := by decide +kernel
theorem dX8_unsubscribe_28 : decode cX8_unsubscribe 28 = .ok (.getfield 38, 3) := by decide +kernel
theorem dX8_unsubscribe_31 : decode cX8_unsubscribe 31 = .ok (.iconst 1, 1) := by decide +kernel
theorem dX8_unsubscribe_32 : decode cX8_unsubscribe 32 = .ok (.isub, 1) := by decide +kernel
theorem dX8_unsubscribe_33 : decode cX8_unsubscribe 33 = .ok (.putfield 38, 3) := by decide +kernel
theorem dX8_unsubscribe_36 : decode cX8_unsubscribe 36 = .ok (.iload_n 2, 1) := by decide +kernel
theorem dX8_unsubscribe_37 : decode cX8_unsubscribe 37 = .ok (.istore_n 3, 1) := by decide +kernel
theorem dX8_unsubscribe_38 : decode cX8_unsubscribe 38 = .ok (.iload_n 3, 1) := by decide +kernel
theorem dX8_unsubscribe_39 : decode cX8_unsubscribe 39 = .ok (.aload_n 0, 1) := by decide +kernel
theorem dX8_unsubscribe_40 : decode cX8_unsubscribe 40 = .ok (.getfield 38, 3) := by decide +kernel
theorem dX8_unsubscribe_43 : decode cX8_unsubscribe 43 = .ok (.if_icmp .ge 23, 3) := by decide +kernel
theorem dX8_unsubscribe_46 : decode cX8_unsubscribe 46 = .ok (.aload_n 0, 1) := by decide +kernel
theorem dX8_unsubscribe_47 : decode cX8_unsubscribe 47 = .ok (.getfield 11, 3) := by decide +kernel
theorem dX8_unsubscribe_50 : decode cX8_unsubscribe 50 = .ok (.iload_n 3, 1) := by decide +kernel
theorem dX8_unsubscribe_51 : decode cX8_unsubscribe 51 = .ok (.aload_n 0, 1) := by decide +kernel
theorem dX8_unsubscribe_52 : decode cX8_unsubscribe 52 = .ok (.getfield 11, 3) := by decide +kernel
theorem dX8_unsubscribe_55 : decode cX8_unsubscribe 55 = .ok (.iload_n 3, 1) := by decide +kernel
theorem dX8_unsubscribe_56 : decode cX8_unsubscribe 56 = .ok (.iconst 1, 1) := by decide +kernel
theorem dX8_unsubscribe_57 : decode cX8_unsubscribe 57 = .ok (.iadd, 1) := by decide +kernel
theorem dX8_unsubscribe_58 : decode cX8_unsubscribe 58 = .ok (.aaload, 1) := by decide +kernel
theorem dX8_unsubscribe_59 : decode cX8_unsubscribe 59 = .ok (.aastore, 1) := by decide +kernel
theorem dX8_unsubscribe_60 : decode cX8_unsubscribe 60 = .ok (.iinc 3 1, 3) := by decide +kernel
theorem dX8_unsubscribe_63 : decode cX8_unsubscribe 63 = .ok (.goto (-25), 3) := by decide +kernel
theorem dX8_unsubscribe_66 : decode cX8_unsubscribe 66 = .ok (.aload_n 0, 1) := by decide +kernel
theorem dX8_unsubscribe_67 : decode cX8_unsubscribe 67 = .ok (.getfield 11, 3) := by decide +kernel
theorem dX8_unsubscribe_70 : decode cX8_unsubscribe 70 = .ok (.aload_n 0, 1) := by decide +kernel
theorem dX8_unsubscribe_71 : decode cX8_unsubscribe 71 = .ok (.getfield 38, 3) := by decide +kernel
theorem dX8_unsubscribe_74 : decode cX8_unsubscribe 74 = .ok (.aconst_null, 1) := by decide +kernel
theorem dX8_unsubscribe_75 : decode cX8_unsubscribe 75 = .ok (.aastore, 1) := by decide +kernel
theorem dX8_unsubscribe_76 : decode cX8_unsubscribe 76 = .ok (.iconst 0, 1) := by decide +kernel
theorem dX8_unsubscribe_77 : decode cX8_unsubscribe 77 = .ok (.ireturn, 1) := by decide +kernel
theorem dX8_maySend_0 : decode cX8_maySend 0 = .ok (.aload_n 0, 1) := by decide +kernel
theorem dX8_maySend_1 : decode cX8_maySend 1 = .ok (.getfield 67, 3) := by decide +kernel
theorem dX8_maySend_4 : decode cX8_maySend 4 = .ok (.ifnull 23, 3) := by decide +kernel
theorem dX8_maySend_7 : decode cX8_maySend 7 = .ok (.aload_n 0, 1) := by decide +kernel
theorem dX8_maySend_8 : decode cX8_maySend 8 = .ok (.getfield 71, 3) := by decide +kernel
theorem dX8_maySend_11 : decode cX8_maySend 11 = .ok (.aload_n 0, 1) := by decide +kernel
theorem dX8_maySend_12 : decode cX8_maySend 12 = .ok (.getfield 74, 3) := by decide +kernel
theorem dX8_maySend_15 : decode cX8_maySend 15 = .ok (.bipush 16, 2) := by decide +kernel
theorem dX8_maySend_17 : decode cX8_maySend 17 = .ok (.invokestatic 77, 3) := by decide +kernel
theorem dX8_maySend_20 : decode cX8_maySend 20 = .ok (.if_icmp .ge 7, 3) := by decide +kernel
theorem dX8_maySend_23 : decode cX8_maySend 23 = .ok (.iconst 1, 1) := by decide +kernel
theorem dX8_maySend_24 : decode cX8_maySend 24 = .ok (.goto 4, 3) := by decide +kernel
theorem dX8_maySend_27 : decode cX8_maySend 27 = .ok (.iconst 0, 1) := by decide +kernel
theorem dX8_maySend_28 : decode cX8_maySend 28 = .ok (.ireturn, 1) := by decide +kernel
theorem dX8_onTheWay_0 : decode cX8_onTheWay 0 = .ok (.iconst 0, 1) := by decide +kernel
theorem dX8_onTheWay_1 : decode cX8_onTheWay 1 = .ok (.istore_n 3, 1) := by decide +kernel
theorem dX8_onTheWay_2 : decode cX8_onTheWay 2 = .ok (.iload_n 3, 1) := by decide +kernel
theorem dX8_onTheWay_3 : decode cX8_onTheWay 3 = .ok (.aload_n 0, 1) := by decide +kernel
theorem dX8_onTheWay_4 : decode cX8_onTheWay 4 = .ok (.getfield 71, 3) := by decide +kernel
theorem dX8_onTheWay_7 : decode cX8_onTheWay 7 = .ok (.if_icmp .ge 42, 3) := by decide +kernel
theorem dX8_onTheWay_10 : decode cX8_onTheWay 10 = .ok (.aload_n 0, 1) := by decide +kernel
theorem dX8_onTheWay_11 : decode cX8_onTheWay 11 = .ok (.getfield 19, 3) := by decide +kernel
theorem dX8_onTheWay_14 : decode cX8_onTheWay 14 = .ok (.iload_n 3, 1) := by decide +kernel
theorem dX8_onTheWay_15 : decode cX8_onTheWay 15 = .ok (.aaload, 1) := by decide +kernel
theorem dX8_onTheWay_16 : decode cX8_onTheWay 16 = .ok (.getfield 83, 3) := by decide +kernel
theorem dX8_onTheWay_19 : decode cX8_onTheWay 19 = .ok (.iload_n 1, 1) := by decide +kernel
theorem dX8_onTheWay_20 : decode cX8_onTheWay 20 = .ok (.if_icmp .ne 23, 3) := by decide +kernel
theorem dX8_onTheWay_23 : decode cX8_onTheWay 23 = .ok (.aload_n 0, 1) := by decide +kernel
theorem dX8_onTheWay_24 : decode cX8_onTheWay 24 = .ok (.getfield 19, 3) := by decide +kernel
theorem dX8_onTheWay_27 : decode cX8_onTheWay 27 = .ok (.iload_n 3, 1) := by decide +kernel
theorem dX8_onTheWay_28 : decode cX8_onTheWay 28 = .ok (.aaload, 1) := by decide +kernel
theorem dX8_onTheWay_29 : decode cX8_onTheWay 29 = .ok (.getfield 84, 3) := by decide +kernel
theorem dX8_onTheWay_32 : decode cX8_onTheWay 32 = .ok (.iload_n 2, 1) := by decide +kernel
theorem dX8_onTheWay_33 : decode cX8_onTheWay 33 = .ok (.if_icmp .ne 10, 3) := by decide +kernel
theorem dX8_onTheWay_36 : decode cX8_onTheWay 36 = .ok (.aload_n 0, 1) := by decide +kernel
theorem dX8_onTheWay_37 : decode cX8_onTheWay 37 = .ok (.getfield 19, 3) := by decide +kernel
theorem dX8_onTheWay_40 : decode cX8_onTheWay 40 = .ok (.iload_n 3, 1) := by decide +kernel
theorem dX8_onTheWay_41 : decode cX8_onTheWay 41 = .ok (.aaload, 1) := by decide +kernel
theorem dX8_onTheWay_42 : decode cX8_onTheWay 42 = .ok (.areturn, 1) := by decide +kernel
theorem dX8_onTheWay_43 : decode cX8_onTheWay 43 = .ok (.iinc 3 1, 3) := by decide +kernel
theorem dX8_onTheWay_46 : decode cX8_onTheWay 46 = .ok (.goto (-44), 3) := by decide +kernel
theorem dX8_onTheWay_49 : decode cX8_onTheWay 49 = .ok (.aconst_null, 1) := by decide +kernel
theorem dX8_onTheWay_50 : decode cX8_onTheWay 50 = .ok (.areturn, 1) := by decide +kernel
theorem dX8_isUsed_0 : decode cX8_isUsed 0 = .ok (.iconst 0, 1) := by decide +kernel
theorem dX8_isUsed_1 : decode cX8_isUsed 1 = .ok (.istore_n 2, 1) := by decide +kernel
theorem dX8_isUsed_2 : decode cX8_isUsed 2 = .ok (.iload_n 2, 1) := by decide +kernel
theorem dX8_isUsed_3 : decode cX8_isUsed 3 = .ok (.aload_n 0, 1) := by decide +kernel
theorem dX8_isUsed_4 : decode cX8_isUsed 4 = .ok (.getfield 71, 3) := by decide +kernel
theorem dX8_isUsed_7 : decode cX8_isUsed 7 = .ok (.if_icmp .ge 24, 3) := by decide +kernel
theorem dX8_isUsed_10 : decode cX8_isUsed 10 = .ok (.aload_n 0, 1) := by decide +kernel
theorem dX8_isUsed_11 : decode cX8_isUsed 11 = .ok (.getfield 19, 3) := by decide +kernel
theorem dX8_isUsed_14 : decode cX8_isUsed 14 = .ok (.iload_n 2, 1) := by decide +kernel
theorem dX8_isUsed_15 : decode cX8_isUsed 15 = .ok (.aaload, 1) := by decide +kernel
theorem dX8_isUsed_16 : decode cX8_isUsed 16 = .ok (.getfield 83, 3) := by decide +kernel
theorem dX8_isUsed_19 : decode cX8_isUsed 19 = .ok (.iload_n 1, 1) := by decide +kernel
theorem dX8_isUsed_20 : decode cX8_isUsed 20 = .ok (.if_icmp .ne 5, 3) := by decide +kernel
theorem dX8_isUsed_23 : decode cX8_isUsed 23 = .ok (.iconst 1, 1) := by decide +kernel
theorem dX8_isUsed_24 : decode cX8_isUsed 24 = .ok (.ireturn, 1) := by decide +kernel
theorem dX8_isUsed_25 : decode cX8_isUsed 25 = .ok (.iinc 2 1, 3) := by decide +kernel
theorem dX8_isUsed_28 : decode cX8_isUsed 28 = .ok (.goto (-26), 3) := by decide +kernel
theorem dX8_isUsed_31 : decode cX8_isUsed 31 = .ok (.iconst 0, 1) := by decide +kernel
theorem dX8_isUsed_32 : decode cX8_isUsed 32 = .ok (.ireturn, 1) := by decide +kernel
theorem dX8_depart_0 : decode cX8_depart 0 = .ok (.iconst 1, 1) := by decide +kernel
theorem dX8_depart_1 : decode cX8_depart 1 = .ok (.istore_n 2, 1) := by decide +kernel
theorem dX8_depart_2 : decode cX8_depart 2 = .ok (.iload_n 2, 1) := by decide +kernel
theorem dX8_depart_3 : decode cX8_depart 3 = .ok (.bipush 16, 2) := by decide +kernel
theorem dX8_depart_5 : decode cX8_depart 5 = .ok (.if_icmp .gt 17, 3) := by decide +kernel
theorem dX8_depart_8 : decode cX8_depart 8 = .ok (.aload_n 0, 1) := by decide +kernel
theorem dX8_depart_9 : decode cX8_depart 9 = .ok (.iload_n 2, 1) := by decide +kernel
theorem dX8_depart_10 : decode cX8_depart 10 = .ok (.invokevirtual 87, 3) := by decide +kernel
theorem dX8_depart_13 : decode cX8_depart 13 = .ok (.ifCond .eq 9, 3) := by decide +kernel
theorem dX8_depart_16 : decode cX8_depart 16 = .ok (.iinc 2 1, 3) := by decide +kernel
theorem dX8_depart_19 : decode cX8_depart 19 = .ok (.goto (-17), 3) := by decide +kernel
theorem dX8_depart_22 : decode cX8_depart 22 = .ok (.aload_n 1, 1) := by decide +kernel
theorem dX8_depart_23 : decode cX8_depart 23 = .ok (.iload_n 2, 1) := by decide +kernel
theorem dX8_depart_24 : decode cX8_depart 24 = .ok (.putfield 83, 3) := by decide +kernel
theorem dX8_depart_27 : decode cX8_depart 27 = .ok (.aload_n 0, 1) := by decide +kernel
theorem dX8_depart_28 : decode cX8_depart 28 = .ok (.getfield 71, 3) := by decide +kernel
theorem dX8_depart_31 : decode cX8_depart 31 = .ok (.bipush 16, 2) := by decide +kernel
theorem dX8_depart_33 : decode cX8_depart 33 = .ok (.if_icmp .ge 23, 3) := by decide +kernel
theorem dX8_depart_36 : decode cX8_depart 36 = .ok (.aload_n 0, 1) := by decide +kernel
theorem dX8_depart_37 : decode cX8_depart 37 = .ok (.getfield 19, 3) := by decide +kernel
theorem dX8_depart_40 : decode cX8_depart 40 = .ok (.aload_n 0, 1) := by decide +kernel
theorem dX8_depart_41 : decode cX8_depart 41 = .ok (.getfield 71, 3) := by decide +kernel
theorem dX8_depart_44 : decode cX8_depart 44 = .ok (.aload_n 1, 1) := by decide +kernel
theorem dX8_depart_45 : decode cX8_depart 45 = .ok (.aastore, 1) := by decide +kernel
theorem dX8_depart_46 : decode cX8_depart 46 = .ok (.aload_n 0, 1) := by decide +kernel
theorem dX8_depart_47 : decode cX8_depart 47 = .ok (.dup, 1) := by decide +kernel
theorem dX8_depart_48 : decode cX8_depart 48 = .ok (.getfield 71, 3) := by decide +kernel
theorem dX8_depart_51 : decode cX8_depart 51 = .ok (.iconst 1, 1) := by decide +kernel
theorem dX8_depart_52 : decode cX8_depart 52 = .ok (.iadd, 1) := by decide +kernel
theorem dX8_depart_53 : decode cX8_depart 53 = .ok (.putfield 71, 3) := by decide +kernel
theorem dX8_depart_56 : decode cX8_depart 56 = .ok (.return_, 1) := by decide +kernel
theorem dX8_arrive_0 : decode cX8_arrive 0 = .ok (.iconst 0, 1) := by decide +kernel
theorem dX8_arrive_1 : decode cX8_arrive 1 = .ok (.istore_n 2, 1) := by decide +kernel
theorem dX8_arrive_2 : decode cX8_arrive 2 = .ok (.iconst 0, 1) := by decide +kernel
theorem dX8_arrive_3 : decode cX8_arrive 3 = .ok (.istore_n 3, 1) := by decide +kernel
theorem dX8_arrive_4 : decode cX8_arrive 4 = .ok (.iload_n 3, 1) := by decide +kernel
theorem dX8_arrive_5 : decode cX8_arrive 5 = .ok (.aload_n 0, 1) := by decide +kernel
theorem dX8_arrive_6 : decode cX8_arrive 6 = .ok (.getfield 71, 3) := by decide +kernel
theorem dX8_arrive_9 : decode cX8_arrive 9 = .ok (.if_icmp .ge 34, 3) := by decide +kernel
theorem dX8_arrive_12 : decode cX8_arrive 12 = .ok (.aload_n 0, 1) := by decide +kernel
theorem dX8_arrive_13 : decode cX8_arrive 13 = .ok (.getfield 19, 3) := by decide +kernel
theorem dX8_arrive_16 : decode cX8_arrive 16 = .ok (.iload_n 3, 1) := by decide +kernel
theorem dX8_arrive_17 : decode cX8_arrive 17 = .ok (.aaload, 1) := by decide +kernel
theorem dX8_arrive_18 : decode cX8_arrive 18 = .ok (.aload_n 1, 1) := by decide +kernel
theorem dX8_arrive_19 : decode cX8_arrive 19 = .ok (.if_acmp .eq 18, 3) := by decide +kernel
theorem dX8_arrive_22 : decode cX8_arrive 22 = .ok (.aload_n 0, 1) := by decide +kernel
theorem dX8_arrive_23 : decode cX8_arrive 23 = .ok (.getfield 19, 3) := by decide +kernel
theorem dX8_arrive_26 : decode cX8_arrive 26 = .ok (.iload_n 2, 1) := by decide +kernel
theorem dX8_arrive_27 : decode cX8_arrive 27 = .ok (.aload_n 0, 1) := by decide +kernel
theorem dX8_arrive_28 : decode cX8_arrive 28 = .ok (.getfield 19, 3) := by decide +kernel
theorem dX8_arrive_31 : decode cX8_arrive 31 = .ok (.iload_n 3, 1) := by decide +kernel
theorem dX8_arrive_32 : decode cX8_arrive 32 = .ok (.aaload, 1) := by decide +kernel
theorem dX8_arrive_33 : decode cX8_arrive 33 = .ok (.aastore, 1) := by decide +kernel
theorem dX8_arrive_34 : decode cX8_arrive 34 = .ok (.iinc 2 1, 3) := by decide +kernel
theorem dX8_arrive_37 : decode cX8_arrive 37 = .ok (.iinc 3 1, 3) := by decide +kernel
theorem dX8_arrive_40 : decode cX8_arrive 40 = .ok (.goto (-36), 3) := by decide +kernel
theorem dX8_arrive_43 : decode cX8_arrive 43 = .ok (.aload_n 0, 1) := by decide +kernel
theorem dX8_arrive_44 : decode cX8_arrive 44 = .ok (.iload_n 2, 1) := by decide +kernel
theorem dX8_arrive_45 : decode cX8_arrive 45 = .ok (.putfield 71, 3) := by decide +kernel
theorem dX8_arrive_48 : decode cX8_arrive 48 = .ok (.return_, 1) := by decide +kernel
theorem dX8_queue_0 : decode cX8_queue 0 = .ok (.aload_n 0, 1) := by decide +kernel
theorem dX8_queue_1 : decode cX8_queue 1 = .ok (.getfield 91, 3) := by decide +kernel
theorem dX8_queue_4 : decode cX8_queue 4 = .ok (.bipush 24, 2) := by decide +kernel
theorem dX8_queue_6 : decode cX8_queue 6 = .ok (.if_icmp .ge 23, 3) := by decide +kernel
theorem dX8_queue_9 : decode cX8_queue 9 = .ok (.aload_n 0, 1) := by decide +kernel
theorem dX8_queue_10 : decode cX8_queue 10 = .ok (.getfield 23, 3) := by decide +kernel
theorem dX8_queue_13 : decode cX8_queue 13 = .ok (.aload_n 0, 1) := by decide +kernel
theorem dX8_queue_14 : decode cX8_queue 14 = .ok (.getfield 91, 3) := by decide +kernel
theorem dX8_queue_17 : decode cX8_queue 17 = .ok (.aload_n 1, 1) := by decide +kernel
theorem dX8_queue_18 : decode cX8_queue 18 = .ok (.aastore, 1) := by decide +kernel
theorem dX8_queue_19 : decode cX8_queue 19 = .ok (.aload_n 0, 1) := by decide +kernel
theorem dX8_queue_20 : decode cX8_queue 20 = .ok (.dup, 1) := by decide +kernel
theorem dX8_queue_21 : decode cX8_queue 21 = .ok (.getfield 91, 3) := by decide +kernel
theorem dX8_queue_24 : decode cX8_queue 24 = .ok (.iconst 1, 1) := by decide +kernel
theorem dX8_queue_25 : decode cX8_queue 25 = .ok (.iadd, 1) := by decide +kernel
theorem dX8_queue_26 : decode cX8_queue 26 = .ok (.putfield 91, 3) := by decide +kernel
theorem dX8_queue_29 : decode cX8_queue 29 = .ok (.return_, 1) := by decide +kernel
theorem dX8_unqueue_0 : decode cX8_unqueue 0 = .ok (.aload_n 0, 1) := by decide +kernel
theorem dX8_unqueue_1 : decode cX8_unqueue 1 = .ok (.getfield 91, 3) := by decide +kernel
theorem dX8_unqueue_4 : decode cX8_unqueue 4 = .ok (.ifCond .ne 5, 3) := by decide +kernel
theorem dX8_unqueue_7 : decode cX8_unqueue 7 = .ok (.aconst_null, 1) := by decide +kernel
theorem dX8_unqueue_8 : decode cX8_unqueue 8 = .ok (.areturn, 1) := by decide +kernel
theorem dX8_unqueue_9 : decode cX8_unqueue 9 = .ok (.aload_n 0, 1) := by decide +kernel
theorem dX8_unqueue_10 : decode cX8_unqueue 10 = .ok (.getfield 23, 3) := by decide +kernel
theorem dX8_unqueue_13 : decode cX8_unqueue 13 = .ok (.iconst 0, 1) := by decide +kernel
theorem dX8_unqueue_14 : decode cX8_unqueue 14 = .ok (.aaload, 1) := by decide +kernel
theorem dX8_unqueue_15 : decode cX8_unqueue 15 = .ok (.astore_n 1, 1) := by decide +kernel
theorem dX8_unqueue_16 : decode cX8_unqueue 16 = .ok (.aload_n 0, 1) := by decide +kernel
theorem dX8_unqueue_17 : decode cX8_unqueue 17 = .ok (.dup, 1) := by decide +kernel
theorem dX8_unqueue_18 : decode cX8_unqueue 18 = .ok (.getfield 91, 3) := by decide +kernel
theorem dX8_unqueue_21 : decode cX8_unqueue 21 = .ok (.iconst 1, 1) := by decide +kernel
theorem dX8_unqueue_22 : decode cX8_unqueue 22 = .ok (.isub, 1) := by decide +kernel
theorem dX8_unqueue_23 : decode cX8_unqueue 23 = .ok (.putfield 91, 3) := by decide +kernel
theorem dX8_unqueue_26 : decode cX8_unqueue 26 = .ok (.iconst 0, 1) := by decide +kernel
theorem dX8_unqueue_27 : decode cX8_unqueue 27 = .ok (.istore_n 2, 1) := by decide +kernel
theorem dX8_unqueue_28 : decode cX8_unqueue 28 = .ok (.iload_n 2, 1) := by decide +kernel
theorem dX8_unqueue_29 : decode cX8_unqueue 29 = .ok (.aload_n 0, 1) := by decide +kernel
theorem dX8_unqueue_30 : decode cX8_unqueue 30 = .ok (.getfield 91, 3) := by decide +kernel
theorem dX8_unqueue_33 : decode cX8_unqueue 33 = .ok (.if_icmp .ge 23, 3) := by decide +kernel
theorem dX8_unqueue_36 : decode cX8_unqueue 36 = .ok (.aload_n 0, 1) := by decide +kernel
theorem dX8_unqueue_37 : decode cX8_unqueue 37 = .ok (.getfield 23, 3) := by decide +kernel
theorem dX8_unqueue_40 : decode cX8_unqueue 40 = .ok (.iload_n 2, 1) := by decide +kernel
theorem dX8_unqueue_41 : decode cX8_unqueue 41 = .ok (.aload_n 0, 1) := by decide +kernel
theorem dX8_unqueue_42 : decode cX8_unqueue 42 = .ok (.getfield 23, 3) := by decide +kernel
theorem dX8_unqueue_45 : decode cX8_unqueue 45 = .ok (.iload_n 2, 1) := by decide +kernel
theorem dX8_unqueue_46 : decode cX8_unqueue 46 = .ok (.iconst 1, 1) := by decide +kernel
theorem dX8_unqueue_47 : decode cX8_unqueue 47 = .ok (.iadd, 1) := by decide +kernel
theorem dX8_unqueue_48 : decode cX8_unqueue 48 = .ok (.aaload, 1) := by decide +kernel
theorem dX8_unqueue_49 : decode cX8_unqueue 49 = .ok (.aastore, 1) := by decide +kernel
theorem dX8_unqueue_50 : decode cX8_unqueue 50 = .ok (.iinc 2 1, 3) := by decide +kernel
theorem dX8_unqueue_53 : decode cX8_unqueue 53 = .ok (.goto (-25), 3) := by decide +kernel
theorem dX8_unqueue_56 : decode cX8_unqueue 56 = .ok (.aload_n 1, 1) := by decide +kernel
theorem dX8_unqueue_57 : decode cX8_unqueue 57 = .ok (.areturn, 1) := by decide +kernel
theorem dX8_holds_0 : decode cX8_holds 0 = .ok (.iconst 0, 1) := by decide +kernel
theorem dX8_holds_1 : decode cX8_holds 1 = .ok (.istore_n 2, 1) := by decide +kernel
theorem dX8_holds_2 : decode cX8_holds 2 = .ok (.iload_n 2, 1) := by decide +kernel
theorem dX8_holds_3 : decode cX8_holds 3 = .ok (.aload_n 0, 1) := by decide +kernel
theorem dX8_holds_4 : decode cX8_holds 4 = .ok (.getfield 94, 3) := by decide +kernel
theorem dX8_holds_7 : decode cX8_holds 7 = .ok (.if_icmp .ge 21, 3) := by decide +kernel
theorem dX8_holds_10 : decode cX8_holds 10 = .ok (.aload_n 0, 1) := by decide +kernel
theorem dX8_holds_11 : decode cX8_holds 11 = .ok (.getfield 26, 3) := by decide +kernel
theorem dX8_holds_14 : decode cX8_holds 14 = .ok (.iload_n 2, 1) := by decide +kernel
theorem dX8_holds_15 : decode cX8_holds 15 = .ok (.iaload, 1) := by decide +kernel
theorem dX8_holds_16 : decode cX8_holds 16 = .ok (.iload_n 1, 1) := by decide +kernel
theorem dX8_holds_17 : decode cX8_holds 17 = .ok (.if_icmp .ne 5, 3) := by decide +kernel
theorem dX8_holds_20 : decode cX8_holds 20 = .ok (.iconst 1, 1) := by decide +kernel
theorem dX8_holds_21 : decode cX8_holds 21 = .ok (.ireturn, 1) := by decide +kernel
theorem dX8_holds_22 : decode cX8_holds 22 = .ok (.iinc 2 1, 3) := by decide +kernel
theorem dX8_holds_25 : decode cX8_holds 25 = .ok (.goto (-23), 3) := by decide +kernel
theorem dX8_holds_28 : decode cX8_holds 28 = .ok (.iconst 0, 1) := by decide +kernel
theorem dX8_holds_29 : decode cX8_holds 29 = .ok (.ireturn, 1) := by decide +kernel
theorem dX8_hold_0 : decode cX8_hold 0 = .ok (.aload_n 0, 1) := by decide +kernel
theorem dX8_hold_1 : decode cX8_hold 1 = .ok (.getfield 94, 3) := by decide +kernel
theorem dX8_hold_4 : decode cX8_hold 4 = .ok (.bipush 8, 2) := by decide +kernel
theorem dX8_hold_6 : decode cX8_hold 6 = .ok (.if_icmp .ge 23, 3) := by decide +kernel
theorem dX8_hold_9 : decode cX8_hold 9 = .ok (.aload_n 0, 1) := by decide +kernel
theorem dX8_hold_10 : decode cX8_hold 10 = .ok (.getfield 26, 3) := by decide +kernel
theorem dX8_hold_13 : decode cX8_hold 13 = .ok (.aload_n 0, 1) := by decide +kernel
theorem dX8_hold_14 : decode cX8_hold 14 = .ok (.getfield 94, 3) := by decide +kernel
theorem dX8_hold_17 : decode cX8_hold 17 = .ok (.iload_n 1, 1) := by decide +kernel
theorem dX8_hold_18 : decode cX8_hold 18 = .ok (.iastore, 1) := by decide +kernel
theorem dX8_hold_19 : decode cX8_hold 19 = .ok (.aload_n 0, 1) := by decide +kernel
theorem dX8_hold_20 : decode cX8_hold 20 = .ok (.dup, 1) := by decide +kernel
theorem dX8_hold_21 : decode cX8_hold 21 = .ok (.getfield 94, 3) := by decide +kernel
theorem dX8_hold_24 : decode cX8_hold 24 = .ok (.iconst 1, 1) := by decide +kernel
theorem dX8_hold_25 : decode cX8_hold 25 = .ok (.iadd, 1) := by decide +kernel
theorem dX8_hold_26 : decode cX8_hold 26 = .ok (.putfield 94, 3) := by decide +kernel
theorem dX8_hold_29 : decode cX8_hold 29 = .ok (.return_, 1) := by decide +kernel
theorem dX8_letGo_0 : decode cX8_letGo 0 = .ok (.iconst 0, 1) := by decide +kernel
theorem dX8_letGo_1 : decode cX8_letGo 1 = .ok (.istore_n 2, 1) := by decide +kernel
theorem dX8_letGo_2 : decode cX8_letGo 2 = .ok (.iload_n 2, 1) := by decide +kernel
theorem dX8_letGo_3 : decode cX8_letGo 3 = .ok (.aload_n 0, 1) := by decide +kernel
theorem dX8_letGo_4 : decode cX8_letGo 4 = .ok (.getfield 94, 3) := by decide +kernel
theorem dX8_letGo_7 : decode cX8_letGo 7 = .ok (.if_icmp .ge 46, 3) := by decide +kernel
theorem dX8_letGo_10 : decode cX8_letGo 10 = .ok (.aload_n 0, 1) := by decide +kernel
theorem dX8_letGo_11 : decode cX8_letGo 11 = .ok (.getfield 26, 3) := by decide +kernel
theorem dX8_letGo_14 : decode cX8_letGo 14 = .ok (.iload_n 2, 1) := by decide +kernel
theorem dX8_letGo_15 : decode cX8_letGo 15 = .ok (.iaload, 1) := by decide +kernel
theorem dX8_letGo_16 : decode cX8_letGo 16 = .ok (.iload_n 1, 1) := by decide +kernel
theorem dX8_letGo_17 : decode cX8_letGo 17 = .ok (.if_icmp .ne 30, 3) := by decide +kernel
theorem dX8_letGo_20 : decode cX8_letGo 20 = .ok (.aload_n 0, 1) := by decide +kernel
theorem dX8_letGo_21 : decode cX8_letGo 21 = .ok (.dup, 1) := by decide +kernel
theorem dX8_letGo_22 : decode cX8_letGo 22 = .ok (.getfield 94, 3) := by decide +kernel
theorem dX8_letGo_25 : decode cX8_letGo 25 = .ok (.iconst 1, 1) := by decide +kernel
theorem dX8_letGo_26 : decode cX8_letGo 26 = .ok (.isub, 1) := by decide +kernel
theorem dX8_letGo_27 : decode cX8_letGo 27 = .ok (.putfield 94, 3) := by decide +kernel
theorem dX8_letGo_30 : decode cX8_letGo 30 = .ok (.aload_n 0, 1) := by decide +kernel
theorem dX8_letGo_31 : decode cX8_letGo 31 = .ok (.getfield 26, 3) := by decide +kernel
theorem dX8_letGo_34 : decode cX8_letGo 34 = .ok (.iload_n 2, 1) := by decide +kernel
theorem dX8_letGo_35 : decode cX8_letGo 35 = .ok (.aload_n 0, 1) := by decide +kernel
theorem dX8_letGo_36 : decode cX8_letGo 36 = .ok (.getfield 26, 3) := by decide +kernel
theorem dX8_letGo_39 : decode cX8_letGo 39 = .ok (.aload_n 0, 1) := by decide +kernel
theorem dX8_letGo_40 : decode cX8_letGo 40 = .ok (.getfield 94, 3) := by decide +kernel
theorem dX8_letGo_43 : decode cX8_letGo 43 = .ok (.iaload, 1) := by decide +kernel
theorem dX8_letGo_44 : decode cX8_letGo 44 = .ok (.iastore, 1) := by decide +kernel
theorem dX8_letGo_45 : decode cX8_letGo 45 = .ok (.iconst 1, 1) := by decide +kernel
theorem dX8_letGo_46 : decode cX8_letGo 46 = .ok (.ireturn, 1) := by decide +kernel
theorem dX8_letGo_47 : decode cX8_letGo 47 = .ok (.iinc 2 1, 3) := by decide +kernel
theorem dX8_letGo_50 : decode cX8_letGo 50 = .ok (.goto (-48), 3) := by decide +kernel
theorem dX8_letGo_53 : decode cX8_letGo 53 = .ok (.iconst 0, 1) := by decide +kernel
theorem dX8_letGo_54 : decode cX8_letGo 54 = .ok (.ireturn, 1) := by decide +kernel
theorem dX8_willTime_0 : decode cX8_willTime 0 = .ok (.aload_n 0, 1) := by decide +kernel
theorem dX8_willTime_1 : decode cX8_willTime 1 = .ok (.getfield 67, 3) := by decide +kernel
theorem dX8_willTime_4 : decode cX8_willTime 4 = .ok (.ifnonnull 10, 3) := by decide +kernel
theorem dX8_willTime_7 : decode cX8_willTime 7 = .ok (.aload_n 0, 1) := by decide +kernel
theorem dX8_willTime_8 : decode cX8_willTime 8 = .ok (.getfield 97, 3) := by decide +kernel
theorem dX8_willTime_11 : decode cX8_willTime 11 = .ok (.ifnonnull 9, 3) := by decide +kernel
theorem dX8_willTime_14 : decode cX8_willTime 14 = .ok (.ldc2_w 101, 3) := by decide +kernel
theorem dX8_willTime_17 : decode cX8_willTime 17 = .ok (.goto 13, 3) := by decide +kernel
theorem dX8_willTime_20 : decode cX8_willTime 20 = .ok (.aload_n 0, 1) := by decide +kernel
theorem dX8_willTime_21 : decode cX8_willTime 21 = .ok (.getfield 103, 3) := by decide +kernel
theorem dX8_willTime_24 : decode cX8_willTime 24 = .ok (.i2l, 1) := by decide +kernel
theorem dX8_willTime_25 : decode cX8_willTime 25 = .ok (.aload_n 0, 1) := by decide +kernel
theorem dX8_willTime_26 : decode cX8_willTime 26 = .ok (.getfield 106, 3) := by decide +kernel
theorem dX8_willTime_29 : decode cX8_willTime 29 = .ok (.ladd, 1) := by decide +kernel
theorem dX8_willTime_30 : decode cX8_willTime 30 = .ok (.lreturn, 1) := by decide +kernel
theorem dX8_endTime_0 : decode cX8_endTime 0 = .ok (.aload_n 0, 1) := by decide +kernel
theorem dX8_endTime_1 : decode cX8_endTime 1 = .ok (.getfield 67, 3) := by decide +kernel
theorem dX8_endTime_4 : decode cX8_endTime 4 = .ok (.ifnonnull 14, 3) := by decide +kernel
theorem dX8_endTime_7 : decode cX8_endTime 7 = .ok (.aload_n 0, 1) := by decide +kernel
theorem dX8_endTime_8 : decode cX8_endTime 8 = .ok (.getfield 110, 3) := by decide +kernel
theorem dX8_endTime_11 : decode cX8_endTime 11 = .ok (.ldc2_w 113, 3) := by decide +kernel
theorem dX8_endTime_14 : decode cX8_endTime 14 = .ok (.lcmp, 1) := by decide +kernel
theorem dX8_endTime_15 : decode cX8_endTime 15 = .ok (.ifCond .ne 9, 3) := by decide +kernel
theorem dX8_endTime_18 : decode cX8_endTime 18 = .ok (.ldc2_w 101, 3) := by decide +kernel
theorem dX8_endTime_21 : decode cX8_endTime 21 = .ok (.goto 13, 3) := by decide +kernel
theorem dX8_endTime_24 : decode cX8_endTime 24 = .ok (.aload_n 0, 1) := by decide +kernel
theorem dX8_endTime_25 : decode cX8_endTime 25 = .ok (.getfield 103, 3) := by decide +kernel
theorem dX8_endTime_28 : decode cX8_endTime 28 = .ok (.i2l, 1) := by decide +kernel
theorem dX8_endTime_29 : decode cX8_endTime 29 = .ok (.aload_n 0, 1) := by decide +kernel
theorem dX8_endTime_30 : decode cX8_endTime 30 = .ok (.getfield 110, 3) := by decide +kernel
theorem dX8_endTime_33 : decode cX8_endTime 33 = .ok (.ladd, 1) := by decide +kernel
theorem dX8_endTime_34 : decode cX8_endTime 34 = .ok (.lreturn, 1) := by decide +kernel
theorem dX9_init_0 : decode cX9_init 0 = .ok (.aload_n 0, 1) := by decide +kernel
theorem dX9_init_1 : decode cX9_init 1 = .ok (.invokespecial 1, 3) := by decide +kernel
theorem dX9_init_4 : decode cX9_init 4 = .ok (.aload_n 0, 1) := by decide +kernel
theorem dX9_init_5 : decode cX9_init 5 = .ok (.aload_n 1, 1) := by decide +kernel
theorem dX9_init_6 : decode cX9_init 6 = .ok (.putfield 7, 3) := by decide +kernel
theorem dX9_init_9 : decode cX9_init 9 = .ok (.aload_n 0, 1) := by decide +kernel
theorem dX9_init_10 : decode cX9_init 10 = .ok (.iload_n 2, 1) := by decide +kernel
theorem dX9_init_11 : decode cX9_init 11 = .ok (.putfield 13, 3) := by decide +kernel
theorem dX9_init_14 : decode cX9_init 14 = .ok (.return_, 1) := by decide +kernel
theorem dX9_isShared_0 : decode cX9_isShared 0 = .ok (.aload_n 0, 1) := by decide +kernel
theorem dX9_isShared_1 : decode cX9_isShared 1 = .ok (.getfield 13, 3) := by decide +kernel
theorem dX9_isShared_4 : decode cX9_isShared 4 = .ok (.ifCond .le 7, 3) := by decide +kernel
theorem dX9_isShared_7 : decode cX9_isShared 7 = .ok (.iconst 1, 1) := by decide +kernel
theorem dX9_isShared_8 : decode cX9_isShared 8 = .ok (.goto 4, 3) := by decide +kernel
theorem dX9_isShared_11 : decode cX9_isShared 11 = .ok (.iconst 0, 1) := by decide +kernel
theorem dX9_isShared_12 : decode cX9_isShared 12 = .ok (.ireturn, 1) := by decide +kernel
theorem dX9_matches_0 : decode cX9_matches 0 = .ok (.aload_n 0, 1) := by decide +kernel
theorem dX9_matches_1 : decode cX9_matches 1 = .ok (.getfield 7, 3) := by decide +kernel
theorem dX9_matches_4 : decode cX9_matches 4 = .ok (.aload_n 0, 1) := by decide +kernel
theorem dX9_matches_5 : decode cX9_matches 5 = .ok (.getfield 13, 3) := by decide +kernel
theorem dX9_matches_8 : decode cX9_matches 8 = .ok (.invokevirtual 17, 3) := by decide +kernel
theorem dX9_matches_11 : decode cX9_matches 11 = .ok (.istore_n 2, 1) := by decide +kernel
theorem dX9_matches_12 : decode cX9_matches 12 = .ok (.aload_n 1, 1) := by decide +kernel
theorem dX9_matches_13 : decode cX9_matches 13 = .ok (.iconst 0, 1) := by decide +kernel
theorem dX9_matches_14 : decode cX9_matches 14 = .ok (.invokevirtual 17, 3) := by decide +kernel
theorem dX9_matches_17 : decode cX9_matches 17 = .ok (.bipush 36, 2) := by decide +kernel
theorem dX9_matches_19 : decode cX9_matches 19 = .ok (.if_icmp .ne 17, 3) := by decide +kernel
theorem dX9_matches_22 : decode cX9_matches 22 = .ok (.iload_n 2, 1) := by decide +kernel
theorem dX9_matches_23 : decode cX9_matches 23 = .ok (.bipush 43, 2) := by decide +kernel
theorem dX9_matches_25 : decode cX9_matches 25 = .ok (.if_icmp .eq 9, 3) := by decide +kernel
theorem dX9_matches_28 : decode cX9_matches 28 = .ok (.iload_n 2, 1) := by decide +kernel
theorem dX9_matches_29 : decode cX9_matches 29 = .ok (.bipush 35, 2) := by decide +kernel
theorem dX9_matches_31 : decode cX9_matches 31 = .ok (.if_icmp .ne 5, 3) := by decide +kernel
theorem dX9_matches_34 : decode cX9_matches 34 = .ok (.iconst 0, 1) := by decide +kernel
theorem dX9_matches_35 : decode cX9_matches 35 = .ok (.ireturn, 1) := by decide +kernel
theorem dX9_matches_36 : decode cX9_matches 36 = .ok (.iconst 0, 1) := by decide +kernel
theorem dX9_matches_37 : decode cX9_matches 37 = .ok (.istore_n 3, 1) := by decide +kernel
theorem dX9_matches_38 : decode cX9_matches 38 = .ok (.aload_n 0, 1) := by decide +kernel
theorem dX9_matches_39 : decode cX9_matches 39 = .ok (.getfield 13, 3) := by decide +kernel
theorem dX9_matches_42 : decode cX9_matches 42 = .ok (.istore 4, 2) := by decide +kernel
theorem dX9_matches_44 : decode cX9_matches 44 = .ok (.iload 4, 2) := by decide +kernel
theorem dX9_matches_46 : decode cX9_matches 46 = .ok (.aload_n 0, 1) := by decide +kernel
theorem dX9_matches_47 : decode cX9_matches 47 = .ok (.getfield 7, 3) := by decide +kernel
theorem dX9_matches_50 : decode cX9_matches 50 = .ok (.invokevirtual 23, 3) := by decide +kernel
theorem dX9_matches_53 : decode cX9_matches 53 = .ok (.if_icmp .ge 113, 3) := by decide +kernel
theorem dX9_matches_56 : decode cX9_matches 56 = .ok (.aload_n 0, 1) := by decide +kernel
theorem dX9_matches_57 : decode cX9_matches 57 = .ok (.getfield 7, 3) := by decide +kernel
theorem dX9_matches_60 : decode cX9_matches 60 = .ok (.iload 4, 2) := by decide +kernel
theorem dX9_matches_62 : decode cX9_matches 62 = .ok (.invokevirtual 17, 3) := by decide +kernel
theorem dX9_matches_65 : decode cX9_matches 65 = .ok (.istore 5, 2) := by decide +kernel
theorem dX9_matches_67 : decode cX9_matches 67 = .ok (.iload 5, 2) := by decide +kernel
theorem dX9_matches_69 : decode cX9_matches 69 = .ok (.bipush 35, 2) := by decide +kernel
theorem dX9_matches_71 : decode cX9_matches 71 = .ok (.if_icmp .ne 5, 3) := by decide +kernel
theorem dX9_matches_74 : decode cX9_matches 74 = .ok (.iconst 1, 1) := by decide +kernel
theorem dX9_matches_75 : decode cX9_matches 75 = .ok (.ireturn, 1) := by decide +kernel
theorem dX9_matches_76 : decode cX9_matches 76 = .ok (.iload 5, 2) := by decide +kernel
theorem dX9_matches_78 : decode cX9_matches 78 = .ok (.bipush 43, 2) := by decide +kernel
theorem dX9_matches_80 : decode cX9_matches 80 = .ok (.if_icmp .ne 27, 3) := by decide +kernel
theorem dX9_matches_83 : decode cX9_matches 83 = .ok (.iload_n 3, 1) := by decide +kernel
theorem dX9_matches_84 : decode cX9_matches 84 = .ok (.aload_n 1, 1) := by decide +kernel
theorem dX9_matches_85 : decode cX9_matches 85 = .ok (.invokevirtual 23, 3) := by decide +kernel
theorem dX9_matches_88 : decode cX9_matches 88 = .ok (.if_icmp .ge 72, 3) := by decide +kernel
theorem dX9_matches_91 : decode cX9_matches 91 = .ok (.aload_n 1, 1) := by decide +kernel
theorem dX9_matches_92 : decode cX9_matches 92 = .ok (.iload_n 3, 1) := by decide +kernel
theorem dX9_matches_93 : decode cX9_matches 93 = .ok (.invokevirtual 17, 3) := by decide +kernel
theorem dX9_matches_96 : decode cX9_matches 96 = .ok (.bipush 47, 2) := by decide +kernel
theorem dX9_matches_98 : decode cX9_matches 98 = .ok (.if_icmp .eq 62, 3) := by decide +kernel
theorem dX9_matches_101 : decode cX9_matches 101 = .ok (.iinc 3 1, 3) := by decide +kernel
theorem dX9_matches_104 : decode cX9_matches 104 = .ok (.goto (-21), 3) := by decide +kernel
theorem dX9_matches_107 : decode cX9_matches 107 = .ok (.iload 5, 2) := by decide +kernel
theorem dX9_matches_109 : decode cX9_matches 109 = .ok (.aload_n 1, 1) := by decide +kernel
theorem dX9_matches_110 : decode cX9_matches 110 = .ok (.iload_n 3, 1) := by decide +kernel
theorem dX9_matches_111 : decode cX9_matches 111 = .ok (.invokevirtual 17, 3) := by decide +kernel
theorem dX9_matches_114 : decode cX9_matches 114 = .ok (.if_icmp .ne 9, 3) := by decide +kernel
theorem dX9_matches_117 : decode cX9_matches 117 = .ok (.iinc 3 1, 3) := by decide +kernel
theorem dX9_matches_120 : decode cX9_matches 120 = .ok (.goto 40, 3) := by decide +kernel
theorem dX9_matches_123 : decode cX9_matches 123 = .ok (.iload_n 3, 1) := by decide +kernel
theorem dX9_matches_124 : decode cX9_matches 124 = .ok (.aload_n 1, 1) := by decide +kernel
theorem dX9_matches_125 : decode cX9_matches 125 = .ok (.invokevirtual 23, 3) := by decide +kernel
theorem dX9_matches_128 : decode cX9_matches 128 = .ok (.if_icmp .ne 30, 3) := by decide +kernel
theorem dX9_matches_131 : decode cX9_matches 131 = .ok (.iload 5, 2) := by decide +kernel
theorem dX9_matches_133 : decode cX9_matches 133 = .ok (.bipush 47, 2) := by decide +kernel
theorem dX9_matches_135 : decode cX9_matches 135 = .ok (.if_icmp .ne 23, 3) := by decide +kernel
theorem dX9_matches_138 : decode cX9_matches 138 = .ok (.aload_n 0, 1) := by decide +kernel
theorem dX9_matches_139 : decode cX9_matches 139 = .ok (.getfield 7, 3) := by decide +kernel
theorem dX9_matches_142 : decode cX9_matches 142 = .ok (.iload 4, 2) := by decide +kernel
theorem dX9_matches_144 : decode cX9_matches 144 = .ok (.iconst 1, 1) := by decide +kernel
theorem dX9_matches_145 : decode cX9_matches 145 = .ok (.iadd, 1) := by decide +kernel
theorem dX9_matches_146 : decode cX9_matches 146 = .ok (.invokevirtual 17, 3) := by decide +kernel
theorem dX9_matches_149 : decode cX9_matches 149 = .ok (.bipush 35, 2) := by decide +kernel
theorem dX9_matches_151 : decode cX9_matches 151 = .ok (.if_icmp .ne 7, 3) := by decide +kernel
theorem dX9_matches_154 : decode cX9_matches 154 = .ok (.iconst 1, 1) := by decide +kernel
theorem dX9_matches_155 : decode cX9_matches 155 = .ok (.goto 4, 3) := by decide +kernel
theorem dX9_matches_158 : decode cX9_matches 158 = .ok (.iconst 0, 1) := by decide +kernel
theorem dX9_matches_159 : decode cX9_matches 159 = .ok (.ireturn, 1) := by decide +kernel
theorem dX9_matches_160 : decode cX9_matches 160 = .ok (.iinc 4 1, 3) := by decide +kernel
theorem dX9_matches_163 : decode cX9_matches 163 = .ok (.goto (-119), 3) := by decide +kernel
theorem dX9_matches_166 : decode cX9_matches 166 = .ok (.iload_n 3, 1) := by decide +kernel
theorem dX9_matches_167 : decode cX9_matches 167 = .ok (.aload_n 1, 1) := by decide +kernel
theorem dX9_matches_168 : decode cX9_matches 168 = .ok (.invokevirtual 23, 3) := by decide +kernel
theorem dX9_matches_171 : decode cX9_matches 171 = .ok (.if_icmp .ne 7, 3) := by decide +kernel
theorem dX9_matches_174 : decode cX9_matches 174 = .ok (.iconst 1, 1) := by decide +kernel
theorem dX9_matches_175 : decode cX9_matches 175 = .ok (.goto 4, 3) := by decide +kernel
theorem dX9_matches_178 : decode cX9_matches 178 = .ok (.iconst 0, 1) := by decide +kernel
theorem dX9_matches_179 : decode cX9_matches 179 = .ok (.ireturn, 1) := by decide +kernel
theorem dX10_init_0 : decode cX10_init 0 = .ok (.aload_n 0, 1) := by decide +kernel
theorem dX10_init_1 : decode cX10_init 1 = .ok (.invokespecial 3, 3) := by decide +kernel
theorem dX10_init_4 : decode cX10_init 4 = .ok (.aload_n 0, 1) := by decide +kernel
theorem dX10_init_5 : decode cX10_init 5 = .ok (.sipush 600, 3) := by decide +kernel
theorem dX10_init_8 : decode cX10_init 8 = .ok (.newarray .int, 2) := by decide +kernel
theorem dX10_init_10 : decode cX10_init 10 = .ok (.putfield 9, 3) := by decide +kernel
theorem dX10_init_13 : decode cX10_init 13 = .ok (.return_, 1) := by decide +kernel
theorem dX10_begin_0 : decode cX10_begin 0 = .ok (.aload_n 0, 1) := by decide +kernel
theorem dX10_begin_1 : decode cX10_begin 1 = .ok (.iload_n 1, 1) := by decide +kernel
theorem dX10_begin_2 : decode cX10_begin 2 = .ok (.putfield 15, 3) := by decide +kernel
theorem dX10_begin_5 : decode cX10_begin 5 = .ok (.aload_n 0, 1) := by decide +kernel
theorem dX10_begin_6 : decode cX10_begin 6 = .ok (.iconst 0, 1) := by decide +kernel
theorem dX10_begin_7 : decode cX10_begin 7 = .ok (.putfield 19, 3) := by decide +kernel
theorem dX10_begin_10 : decode cX10_begin 10 = .ok (.return_, 1) := by decide +kernel
theorem dX10_one_0 : decode cX10_one 0 = .ok (.aload_n 0, 1) := by decide +kernel
theorem dX10_one_1 : decode cX10_one 1 = .ok (.getfield 19, 3) := by decide +kernel
theorem dX10_one_4 : decode cX10_one 4 = .ok (.sipush 600, 3) := by decide +kernel
theorem dX10_one_7 : decode cX10_one 7 = .ok (.if_icmp .ge 27, 3) := by decide +kernel
theorem dX10_one_10 : decode cX10_one 10 = .ok (.aload_n 0, 1) := by decide +kernel
theorem dX10_one_11 : decode cX10_one 11 = .ok (.getfield 9, 3) := by decide +kernel
theorem dX10_one_14 : decode cX10_one 14 = .ok (.aload_n 0, 1) := by decide +kernel
theorem dX10_one_15 : decode cX10_one 15 = .ok (.getfield 19, 3) := by decide +kernel
theorem dX10_one_18 : decode cX10_one 18 = .ok (.iload_n 1, 1) := by decide +kernel
theorem dX10_one_19 : decode cX10_one 19 = .ok (.sipush 255, 3) := by decide +kernel
theorem dX10_one_22 : decode cX10_one 22 = .ok (.iand, 1) := by decide +kernel
theorem dX10_one_23 : decode cX10_one 23 = .ok (.iastore, 1) := by decide +kernel
theorem dX10_one_24 : decode cX10_one 24 = .ok (.aload_n 0, 1) := by decide +kernel
theorem dX10_one_25 : decode cX10_one 25 = .ok (.dup, 1) := by decide +kernel
theorem dX10_one_26 : decode cX10_one 26 = .ok (.getfield 19, 3) := by decide +kernel
theorem dX10_one_29 : decode cX10_one 29 = .ok (.iconst 1, 1) := by decide +kernel
theorem dX10_one_30 : decode cX10_one 30 = .ok (.iadd, 1) := by decide +kernel
theorem dX10_one_31 : decode cX10_one 31 = .ok (.putfield 19, 3) := by decide +kernel
theorem dX10_one_34 : decode cX10_one 34 = .ok (.return_, 1) := by decide +kernel
theorem dX10_two_0 : decode cX10_two 0 = .ok (.aload_n 0, 1) := by decide +kernel
theorem dX10_two_1 : decode cX10_two 1 = .ok (.getfield 19, 3) := by decide +kernel
theorem dX10_two_4 : decode cX10_two 4 = .ok (.iconst 2, 1) := by decide +kernel
theorem dX10_two_5 : decode cX10_two 5 = .ok (.iadd, 1) := by decide +kernel
theorem dX10_two_6 : decode cX10_two 6 = .ok (.sipush 600, 3) := by decide +kernel
theorem dX10_two_9 : decode cX10_two 9 = .ok (.if_icmp .gt 46, 3) := by decide +kernel
theorem dX10_two_12 : decode cX10_two 12 = .ok (.aload_n 0, 1) := by decide +kernel
theorem dX10_two_13 : decode cX10_two 13 = .ok (.getfield 9, 3) := by decide +kernel
theorem dX10_two_16 : decode cX10_two 16 = .ok (.aload_n 0, 1) := by decide +kernel
theorem dX10_two_17 : decode cX10_two 17 = .ok (.getfield 19, 3) := by decide +kernel
theorem dX10_two_20 : decode cX10_two 20 = .ok (.iload_n 1, 1) := by decide +kernel
theorem dX10_two_21 : decode cX10_two 21 = .ok (.bipush 8, 2) := by decide +kernel
theorem dX10_two_23 : decode cX10_two 23 = .ok (.ishr, 1) := by decide +kernel
theorem dX10_two_24 : decode cX10_two 24 = .ok (.sipush 255, 3) := by decide +kernel
theorem dX10_two_27 : decode cX10_two 27 = .ok (.iand, 1) := by decide +kernel
theorem dX10_two_28 : decode cX10_two 28 = .ok (.iastore, 1) := by decide +kernel
theorem dX10_two_29 : decode cX10_two 29 = .ok (.aload_n 0, 1) := by decide +kernel
theorem dX10_two_30 : decode cX10_two 30 = .ok (.getfield 9, 3) := by decide +kernel
theorem dX10_two_33 : decode cX10_two 33 = .ok (.aload_n 0, 1) := by decide +kernel
theorem dX10_two_34 : decode cX10_two 34 = .ok (.getfield 19, 3) := by decide +kernel
theorem dX10_two_37 : decode cX10_two 37 = .ok (.iconst 1, 1) := by decide +kernel
theorem dX10_two_38 : decode cX10_two 38 = .ok (.iadd, 1) := by decide +kernel
theorem dX10_two_39 : decode cX10_two 39 = .ok (.iload_n 1, 1) := by decide +kernel
theorem dX10_two_40 : decode cX10_two 40 = .ok (.sipush 255, 3) := by decide +kernel
theorem dX10_two_43 : decode cX10_two 43 = .ok (.iand, 1) := by decide +kernel
theorem dX10_two_44 : decode cX10_two 44 = .ok (.iastore, 1) := by decide +kernel
theorem dX10_two_45 : decode cX10_two 45 = .ok (.aload_n 0, 1) := by decide +kernel
theorem dX10_two_46 : decode cX10_two 46 = .ok (.dup, 1) := by decide +kernel
theorem dX10_two_47 : decode cX10_two 47 = .ok (.getfield 19, 3) := by decide +kernel
theorem dX10_two_50 : decode cX10_two 50 = .ok (.iconst 2, 1) := by decide +kernel
theorem dX10_two_51 : decode cX10_two 51 = .ok (.iadd, 1) := by decide +kernel
theorem dX10_two_52 : decode cX10_two 52 = .ok (.putfield 19, 3) := by decide +kernel
theorem dX10_two_55 : decode cX10_two 55 = .ok (.return_, 1) := by decide +kernel
theorem dX10_four_0 : decode cX10_four 0 = .ok (.bipush 24, 2) := by decide +kernel
theorem dX10_four_2 : decode cX10_four 2 = .ok (.istore_n 3, 1) := by decide +kernel
theorem dX10_four_3 : decode cX10_four 3 = .ok (.iload_n 3, 1) := by decide +kernel
theorem dX10_four_4 : decode cX10_four 4 = .ok (.ifCond .lt 46, 3) := by decide +kernel
theorem dX10_four_7 : decode cX10_four 7 = .ok (.aload_n 0, 1) := by decide +kernel
theorem dX10_four_8 : decode cX10_four 8 = .ok (.getfield 19, 3) := by decide +kernel
theorem dX10_four_11 : decode cX10_four 11 = .ok (.sipush 600, 3) := by decide +kernel
theorem dX10_four_14 : decode cX10_four 14 = .ok (.if_icmp .ge 36, 3) := by decide +kernel
theorem dX10_four_17 : decode cX10_four 17 = .ok (.aload_n 0, 1) := by decide +kernel
theorem dX10_four_18 : decode cX10_four 18 = .ok (.getfield 9, 3) := by decide +kernel
theorem dX10_four_21 : decode cX10_four 21 = .ok (.aload_n 0, 1) := by decide +kernel
theorem dX10_four_22 : decode cX10_four 22 = .ok (.getfield 19, 3) := by decide +kernel
theorem dX10_four_25 : decode cX10_four 25 = .ok (.lload_n 1, 1) := by decide +kernel
theorem dX10_four_26 : decode cX10_four 26 = .ok (.iload_n 3, 1) := by decide +kernel
theorem dX10_four_27 : decode cX10_four 27 = .ok (.lshr, 1) := by decide +kernel
theorem dX10_four_28 : decode cX10_four 28 = .ok (.l2i, 1) := by decide +kernel
theorem dX10_four_29 : decode cX10_four 29 = .ok (.sipush 255, 3) := by decide +kernel
theorem dX10_four_32 : decode cX10_four 32 = .ok (.iand, 1) := by decide +kernel
theorem dX10_four_33 : decode cX10_four 33 = .ok (.iastore, 1) := by decide +kernel
theorem dX10_four_34 : decode cX10_four 34 = .ok (.aload_n 0, 1) := by decide +kernel
theorem dX10_four_35 : decode cX10_four 35 = .ok (.dup, 1) := by decide +kernel
theorem dX10_four_36 : decode cX10_four 36 = .ok (.getfield 19, 3) := by decide +kernel
theorem dX10_four_39 : decode cX10_four 39 = .ok (.iconst 1, 1) := by decide +kernel
theorem dX10_four_40 : decode cX10_four 40 = .ok (.iadd, 1) := by decide +kernel
theorem dX10_four_41 : decode cX10_four 41 = .ok (.putfield 19, 3) := by decide +kernel
theorem dX10_four_44 : decode cX10_four 44 = .ok (.iinc 3 (-8), 3) := by decide +kernel
theorem dX10_four_47 : decode cX10_four 47 = .ok (.goto (-44), 3) := by decide +kernel
theorem dX10_four_50 : decode cX10_four 50 = .ok (.return_, 1) := by decide +kernel
theorem dX10_variable_0 : decode cX10_variable 0 = .ok (.iload_n 1, 1) := by decide +kernel
theorem dX10_variable_1 : decode cX10_variable 1 = .ok (.istore_n 2, 1) := by decide +kernel
theorem dX10_variable_2 : decode cX10_variable 2 = .ok (.iconst 0, 1) := by decide +kernel
theorem dX10_variable_3 : decode cX10_variable 3 = .ok (.istore_n 3, 1) := by decide +kernel
theorem dX10_variable_4 : decode cX10_variable 4 = .ok (.iload_n 3, 1) := by decide +kernel
theorem dX10_variable_5 : decode cX10_variable 5 = .ok (.iconst 4, 1) := by decide +kernel
theorem dX10_variable_6 : decode cX10_variable 6 = .ok (.if_icmp .ge 67, 3) := by decide +kernel
theorem dX10_variable_9 : decode cX10_variable 9 = .ok (.aload_n 0, 1) := by decide +kernel
theorem dX10_variable_10 : decode cX10_variable 10 = .ok (.getfield 19, 3) := by decide +kernel
theorem dX10_variable_13 : decode cX10_variable 13 = .ok (.sipush 600, 3) := by decide +kernel
theorem dX10_variable_16 : decode cX10_variable 16 = .ok (.if_icmp .ge 57, 3) := by decide +kernel
theorem dX10_variable_19 : decode cX10_variable 19 = .ok (.aload_n 0, 1) := by decide +kernel
theorem dX10_variable_20 : decode cX10_variable 20 = .ok (.getfield 9, 3) := by decide +kernel
theorem dX10_variable_23 : decode cX10_variable 23 = .ok (.aload_n 0, 1) := by decide +kernel
theorem dX10_variable_24 : decode cX10_variable 24 = .ok (.getfield 19, 3) := by decide +kernel
theorem dX10_variable_27 : decode cX10_variable 27 = .ok (.iload_n 2, 1) := by decide +kernel
theorem dX10_variable_28 : decode cX10_variable 28 = .ok (.sipush 128, 3) := by decide +kernel
theorem dX10_variable_31 : decode cX10_variable 31 = .ok (.if_icmp .ge 7, 3) := by decide +kernel
theorem dX10_variable_34 : decode cX10_variable 34 = .ok (.iload_n 2, 1) := by decide +kernel
theorem dX10_variable_35 : decode cX10_variable 35 = .ok (.goto 11, 3) := by decide +kernel
theorem dX10_variable_38 : decode cX10_variable 38 = .ok (.iload_n 2, 1) := by decide +kernel
theorem dX10_variable_39 : decode cX10_variable 39 = .ok (.bipush 127, 2) := by decide +kernel
theorem dX10_variable_41 : decode cX10_variable 41 = .ok (.iand, 1) := by decide +kernel
theorem dX10_variable_42 : decode cX10_variable 42 = .ok (.sipush 128, 3) := by decide +kernel
theorem dX10_variable_45 : decode cX10_variable 45 = .ok (.ior, 1) := by decide +kernel
theorem dX10_variable_46 : decode cX10_variable 46 = .ok (.iastore, 1) := by decide +kernel
theorem dX10_variable_47 : decode cX10_variable 47 = .ok (.aload_n 0, 1) := by decide +kernel
theorem dX10_variable_48 : decode cX10_variable 48 = .ok (.dup, 1) := by decide +kernel
theorem dX10_variable_49 : decode cX10_variable 49 = .ok (.getfield 19, 3) := by decide +kernel
theorem dX10_variable_52 : decode cX10_variable 52 = .ok (.iconst 1, 1) := by decide +kernel
theorem dX10_variable_53 : decode cX10_variable 53 = .ok (.iadd, 1) := by decide +kernel
theorem dX10_variable_54 : decode cX10_variable 54 = .ok (.putfield 19, 3) := by decide +kernel
theorem dX10_variable_57 : decode cX10_variable 57 = .ok (.iload_n 2, 1) := by decide +kernel
theorem dX10_variable_58 : decode cX10_variable 58 = .ok (.bipush 7, 2) := by decide +kernel
theorem dX10_variable_60 : decode cX10_variable 60 = .ok (.ishr, 1) := by decide +kernel
theorem dX10_variable_61 : decode cX10_variable 61 = .ok (.istore_n 2, 1) := by decide +kernel
theorem dX10_variable_62 : decode cX10_variable 62 = .ok (.iload_n 2, 1) := by decide +kernel
theorem dX10_variable_63 : decode cX10_variable 63 = .ok (.ifCond .ne 4, 3) := by decide +kernel
theorem dX10_variable_66 : decode cX10_variable 66 = .ok (.return_, 1) := by decide +kernel
theorem dX10_variable_67 : decode cX10_variable 67 = .ok (.iinc 3 1, 3) := by decide +kernel
theorem dX10_variable_70 : decode cX10_variable 70 = .ok (.goto (-66), 3) := by decide +kernel
theorem dX10_variable_73 : decode cX10_variable 73 = .ok (.return_, 1) := by decide +kernel
theorem dX10_raw_0 : decode cX10_raw 0 = .ok (.iconst 0, 1) := by decide +kernel
theorem dX10_raw_1 : decode cX10_raw 1 = .ok (.istore_n 2, 1) := by decide +kernel
theorem dX10_raw_2 : decode cX10_raw 2 = .ok (.iload_n 2, 1) := by decide +kernel
theorem dX10_raw_3 : decode cX10_raw 3 = .ok (.aload_n 1, 1) := by decide +kernel
theorem dX10_raw_4 : decode cX10_raw 4 = .ok (.getfield 22, 3) := by decide +kernel
theorem dX10_raw_7 : decode cX10_raw 7 = .ok (.arraylength, 1) := by decide +kernel
theorem dX10_raw_8 : decode cX10_raw 8 = .ok (.if_icmp .ge 44, 3) := by decide +kernel
theorem dX10_raw_11 : decode cX10_raw 11 = .ok (.aload_n 0, 1) := by decide +kernel
theorem dX10_raw_12 : decode cX10_raw 12 = .ok (.getfield 19, 3) := by decide +kernel
theorem dX10_raw_15 : decode cX10_raw 15 = .ok (.sipush 600, 3) := by decide +kernel
theorem dX10_raw_18 : decode cX10_raw 18 = .ok (.if_icmp .ge 34, 3) := by decide +kernel
theorem dX10_raw_21 : decode cX10_raw 21 = .ok (.aload_n 0, 1) := by decide +kernel
theorem dX10_raw_22 : decode cX10_raw 22 = .ok (.getfield 9, 3) := by decide +kernel
theorem dX10_raw_25 : decode cX10_raw 25 = .ok (.aload_n 0, 1) := by decide +kernel
theorem dX10_raw_26 : decode cX10_raw 26 = .ok (.getfield 19, 3) := by decide +kernel
theorem dX10_raw_29 : decode cX10_raw 29 = .ok (.aload_n 1, 1) := by decide +kernel
theorem dX10_raw_30 : decode cX10_raw 30 = .ok (.getfield 22, 3) := by decide +kernel
theorem dX10_raw_33 : decode cX10_raw 33 = .ok (.iload_n 2, 1) := by decide +kernel
theorem dX10_raw_34 : decode cX10_raw 34 = .ok (.iaload, 1) := by decide +kernel
theorem dX10_raw_35 : decode cX10_raw 35 = .ok (.iastore, 1) := by decide +kernel
theorem dX10_raw_36 : decode cX10_raw 36 = .ok (.aload_n 0, 1) := by decide +kernel
theorem dX10_raw_37 : decode cX10_raw 37 = .ok (.dup, 1) := by decide +kernel
theorem dX10_raw_38 : decode cX10_raw 38 = .ok (.getfield 19, 3) := by decide +kernel
theorem dX10_raw_41 : decode cX10_raw 41 = .ok (.iconst 1, 1) := by decide +kernel
theorem dX10_raw_42 : decode cX10_raw 42 = .ok (.iadd, 1) := by decide +kernel
theorem dX10_raw_43 : decode cX10_raw 43 = .ok (.putfield 19, 3) := by decide +kernel
theorem dX10_raw_46 : decode cX10_raw 46 = .ok (.iinc 2 1, 3) := by decide +kernel
theorem dX10_raw_49 : decode cX10_raw 49 = .ok (.goto (-47), 3) := by decide +kernel
theorem dX10_raw_52 : decode cX10_raw 52 = .ok (.return_, 1) := by decide +kernel
theorem dX10_width_0 : decode cX10_width 0 = .ok (.iload_n 1, 1) := by decide +kernel
theorem dX10_width_1 : decode cX10_width 1 = .ok (.sipush 128, 3) := by decide +kernel
theorem dX10_width_4 : decode cX10_width 4 = .ok (.if_icmp .ge 7, 3) := by decide +kernel
theorem dX10_width_7 : decode cX10_width 7 = .ok (.iconst 1, 1) := by decide +kernel
theorem dX10_width_8 : decode cX10_width 8 = .ok (.goto 25, 3) := by decide +kernel
theorem dX10_width_11 : decode cX10_width 11 = .ok (.iload_n 1, 1) := by decide +kernel
theorem dX10_width_12 : decode cX10_width 12 = .ok (.sipush 16384, 3) := by decide +kernel
theorem dX10_width_15 : decode cX10_width 15 = .ok (.if_icmp .ge 7, 3) := by decide +kernel
theorem dX10_width_18 : decode cX10_width 18 = .ok (.iconst 2, 1) := by decide +kernel
theorem dX10_width_19 : decode cX10_width 19 = .ok (.goto 14, 3) := by decide +kernel
theorem dX10_width_22 : decode cX10_width 22 = .ok (.iload_n 1, 1) := by decide +kernel
theorem dX10_width_23 : decode cX10_width 23 = .ok (.ldc 27, 2) := by decide +kernel
theorem dX10_width_25 : decode cX10_width 25 = .ok (.if_icmp .ge 7, 3) := by decide +kernel
theorem dX10_width_28 : decode cX10_width 28 = .ok (.iconst 3, 1) := by decide +kernel
theorem dX10_width_29 : decode cX10_width 29 = .ok (.goto 4, 3) := by decide +kernel
theorem dX10_width_32 : decode cX10_width 32 = .ok (.iconst 4, 1) := by decide +kernel
theorem dX10_width_33 : decode cX10_width 33 = .ok (.ireturn, 1) := by decide +kernel
theorem dX10_total_0 : decode cX10_total 0 = .ok (.iconst 1, 1) := by decide +kernel
theorem dX10_total_1 : decode cX10_total 1 = .ok (.aload_n 0, 1) := by decide +kernel
theorem dX10_total_2 : decode cX10_total 2 = .ok (.aload_n 0, 1) := by decide +kernel
theorem dX10_total_3 : decode cX10_total 3 = .ok (.getfield 19, 3) := by decide +kernel
theorem dX10_total_6 : decode cX10_total 6 = .ok (.invokevirtual 28, 3) := by decide +kernel
theorem dX10_total_9 : decode cX10_total 9 = .ok (.iadd, 1) := by decide +kernel
theorem dX10_total_10 : decode cX10_total 10 = .ok (.aload_n 0, 1) := by decide +kernel
theorem dX10_total_11 : decode cX10_total 11 = .ok (.getfield 19, 3) := by decide +kernel
theorem dX10_total_14 : decode cX10_total 14 = .ok (.iadd, 1) := by decide +kernel
theorem dX10_total_15 : decode cX10_total 15 = .ok (.ireturn, 1) := by decide +kernel
theorem dX10_publish_0 : decode cX10_publish 0 = .ok (.aload_n 1, 1) := by decide +kernel
theorem dX10_publish_1 : decode cX10_publish 1 = .ok (.getfield 32, 3) := by decide +kernel
theorem dX10_publish_4 : decode cX10_publish 4 = .ok (.astore 4, 2) := by decide +kernel
theorem dX10_publish_6 : decode cX10_publish 6 = .ok (.aload_n 0, 1) := by decide +kernel
theorem dX10_publish_7 : decode cX10_publish 7 = .ok (.bipush 48, 2) := by decide +kernel
theorem dX10_publish_9 : decode cX10_publish 9 = .ok (.iload_n 2, 1) := by decide +kernel
theorem dX10_publish_10 : decode cX10_publish 10 = .ok (.ifCond .eq 8, 3) := by decide +kernel
theorem dX10_publish_13 : decode cX10_publish 13 = .ok (.bipush 8, 2) := by decide +kernel
theorem dX10_publish_15 : decode cX10_publish 15 = .ok (.goto 4, 3) := by decide +kernel
theorem dX10_publish_18 : decode cX10_publish 18 = .ok (.iconst 0, 1) := by decide +kernel
theorem dX10_publish_19 : decode cX10_publish 19 = .ok (.ior, 1) := by decide +kernel
theorem dX10_publish_20 : decode cX10_publish 20 = .ok (.aload_n 1, 1) := by decide +kernel
theorem dX10_publish_21 : decode cX10_publish 21 = .ok (.getfield 38, 3) := by decide +kernel
theorem dX10_publish_24 : decode cX10_publish 24 = .ok (.iconst 1, 1) := by decide +kernel
theorem dX10_publish_25 : decode cX10_publish 25 = .ok (.ishl, 1) := by decide +kernel
