theorem dX12_pending_0 : decode cX12_pending 0 = .ok (.aload_n 0, 1) := by decide +kernel
theorem dX12_pending_1 : decode cX12_pending 1 = .ok (.iload_n 1, 1) := by decide +kernel
theorem dX12_pending_2 : decode cX12_pending 2 = .ok (.invokestatic 249, 3) := by decide +kernel
theorem dX12_pending_5 : decode cX12_pending 5 = .ok (.ifCond .eq 7, 3) := by decide +kernel
theorem dX12_pending_8 : decode cX12_pending 8 = .ok (.iconst 0, 1) := by decide +kernel
theorem dX12_pending_9 : decode cX12_pending 9 = .ok (.goto 4, 3) := by decide +kernel
theorem dX12_pending_12 : decode cX12_pending 12 = .ok (.iconst 1, 1) := by decide +kernel
theorem dX12_pending_13 : decode cX12_pending 13 = .ok (.invokevirtual 253, 3) := by decide +kernel
theorem dX12_pending_16 : decode cX12_pending 16 = .ok (.ifCond .eq 7, 3) := by decide +kernel
theorem dX12_pending_19 : decode cX12_pending 19 = .ok (.iconst 0, 1) := by decide +kernel
theorem dX12_pending_20 : decode cX12_pending 20 = .ok (.goto 9, 3) := by decide +kernel
theorem dX12_pending_23 : decode cX12_pending 23 = .ok (.aload_n 0, 1) := by decide +kernel
theorem dX12_pending_24 : decode cX12_pending 24 = .ok (.getfield 28, 3) := by decide +kernel
theorem dX12_pending_27 : decode cX12_pending 27 = .ok (.iload_n 1, 1) := by decide +kernel
theorem dX12_pending_28 : decode cX12_pending 28 = .ok (.iaload, 1) := by decide +kernel
theorem dX12_pending_29 : decode cX12_pending 29 = .ok (.ireturn, 1) := by decide +kernel
theorem dX12_fails_0 : decode cX12_fails 0 = .ok (.aload_n 0, 1) := by decide +kernel
theorem dX12_fails_1 : decode cX12_fails 1 = .ok (.getfield 283, 3) := by decide +kernel
theorem dX12_fails_4 : decode cX12_fails 4 = .ok (.ifCond .ne 8, 3) := by decide +kernel
theorem dX12_fails_7 : decode cX12_fails 7 = .ok (.aload_n 0, 1) := by decide +kernel
theorem dX12_fails_8 : decode cX12_fails 8 = .ok (.iload_n 1, 1) := by decide +kernel
theorem dX12_fails_9 : decode cX12_fails 9 = .ok (.putfield 283, 3) := by decide +kernel
theorem dX12_fails_12 : decode cX12_fails 12 = .ok (.return_, 1) := by decide +kernel
theorem dX12_one_0 : decode cX12_one 0 = .ok (.aload_n 0, 1) := by decide +kernel
theorem dX12_one_1 : decode cX12_one 1 = .ok (.getfield 283, 3) := by decide +kernel
theorem dX12_one_4 : decode cX12_one 4 = .ok (.ifCond .eq 5, 3) := by decide +kernel
theorem dX12_one_7 : decode cX12_one 7 = .ok (.iconst 0, 1) := by decide +kernel
theorem dX12_one_8 : decode cX12_one 8 = .ok (.ireturn, 1) := by decide +kernel
theorem dX12_one_9 : decode cX12_one 9 = .ok (.aload_n 0, 1) := by decide +kernel
theorem dX12_one_10 : decode cX12_one 10 = .ok (.getfield 274, 3) := by decide +kernel
theorem dX12_one_13 : decode cX12_one 13 = .ok (.aload_n 0, 1) := by decide +kernel
theorem dX12_one_14 : decode cX12_one 14 = .ok (.getfield 280, 3) := by decide +kernel
theorem dX12_one_17 : decode cX12_one 17 = .ok (.if_icmp .lt 12, 3) := by decide +kernel
theorem dX12_one_20 : decode cX12_one 20 = .ok (.aload_n 0, 1) := by decide +kernel
theorem dX12_one_21 : decode cX12_one 21 = .ok (.sipush 129, 3) := by decide +kernel
theorem dX12_one_24 : decode cX12_one 24 = .ok (.invokevirtual 343, 3) := by decide +kernel
theorem dX12_one_27 : decode cX12_one 27 = .ok (.iconst 0, 1) := by decide +kernel
theorem dX12_one_28 : decode cX12_one 28 = .ok (.ireturn, 1) := by decide +kernel
theorem dX12_one_29 : decode cX12_one 29 = .ok (.aload_n 0, 1) := by decide +kernel
theorem dX12_one_30 : decode cX12_one 30 = .ok (.getfield 31, 3) := by decide +kernel
theorem dX12_one_33 : decode cX12_one 33 = .ok (.aload_n 0, 1) := by decide +kernel
theorem dX12_one_34 : decode cX12_one 34 = .ok (.dup, 1) := by decide +kernel
theorem dX12_one_35 : decode cX12_one 35 = .ok (.getfield 274, 3) := by decide +kernel
theorem dX12_one_38 : decode cX12_one 38 = .ok (.dup_x1, 1) := by decide +kernel
theorem dX12_one_39 : decode cX12_one 39 = .ok (.iconst 1, 1) := by decide +kernel
theorem dX12_one_40 : decode cX12_one 40 = .ok (.iadd, 1) := by decide +kernel
theorem dX12_one_41 : decode cX12_one 41 = .ok (.putfield 274, 3) := by decide +kernel
theorem dX12_one_44 : decode cX12_one 44 = .ok (.baload, 1) := by decide +kernel
theorem dX12_one_45 : decode cX12_one 45 = .ok (.sipush 255, 3) := by decide +kernel
theorem dX12_one_48 : decode cX12_one 48 = .ok (.iand, 1) := by decide +kernel
theorem dX12_one_49 : decode cX12_one 49 = .ok (.ireturn, 1) := by decide +kernel
theorem dX12_two_0 : decode cX12_two 0 = .ok (.aload_n 0, 1) := by decide +kernel
theorem dX12_two_1 : decode cX12_two 1 = .ok (.getfield 283, 3) := by decide +kernel
theorem dX12_two_4 : decode cX12_two 4 = .ok (.ifCond .ne 23, 3) := by decide +kernel
theorem dX12_two_7 : decode cX12_two 7 = .ok (.aload_n 0, 1) := by decide +kernel
theorem dX12_two_8 : decode cX12_two 8 = .ok (.getfield 274, 3) := by decide +kernel
theorem dX12_two_11 : decode cX12_two 11 = .ok (.iconst 2, 1) := by decide +kernel
theorem dX12_two_12 : decode cX12_two 12 = .ok (.iadd, 1) := by decide +kernel
theorem dX12_two_13 : decode cX12_two 13 = .ok (.aload_n 0, 1) := by decide +kernel
theorem dX12_two_14 : decode cX12_two 14 = .ok (.getfield 280, 3) := by decide +kernel
theorem dX12_two_17 : decode cX12_two 17 = .ok (.if_icmp .le 10, 3) := by decide +kernel
theorem dX12_two_20 : decode cX12_two 20 = .ok (.aload_n 0, 1) := by decide +kernel
theorem dX12_two_21 : decode cX12_two 21 = .ok (.sipush 129, 3) := by decide +kernel
theorem dX12_two_24 : decode cX12_two 24 = .ok (.invokevirtual 343, 3) := by decide +kernel
theorem dX12_two_27 : decode cX12_two 27 = .ok (.aload_n 0, 1) := by decide +kernel
theorem dX12_two_28 : decode cX12_two 28 = .ok (.invokevirtual 346, 3) := by decide +kernel
theorem dX12_two_31 : decode cX12_two 31 = .ok (.istore_n 1, 1) := by decide +kernel
theorem dX12_two_32 : decode cX12_two 32 = .ok (.iload_n 1, 1) := by decide +kernel
theorem dX12_two_33 : decode cX12_two 33 = .ok (.bipush 8, 2) := by decide +kernel
theorem dX12_two_35 : decode cX12_two 35 = .ok (.ishl, 1) := by decide +kernel
theorem dX12_two_36 : decode cX12_two 36 = .ok (.aload_n 0, 1) := by decide +kernel
theorem dX12_two_37 : decode cX12_two 37 = .ok (.invokevirtual 346, 3) := by decide +kernel
theorem dX12_two_40 : decode cX12_two 40 = .ok (.ior, 1) := by decide +kernel
theorem dX12_two_41 : decode cX12_two 41 = .ok (.ireturn, 1) := by decide +kernel
theorem dX12_four_0 : decode cX12_four 0 = .ok (.aload_n 0, 1) := by decide +kernel
theorem dX12_four_1 : decode cX12_four 1 = .ok (.getfield 283, 3) := by decide +kernel
theorem dX12_four_4 : decode cX12_four 4 = .ok (.ifCond .ne 23, 3) := by decide +kernel
theorem dX12_four_7 : decode cX12_four 7 = .ok (.aload_n 0, 1) := by decide +kernel
theorem dX12_four_8 : decode cX12_four 8 = .ok (.getfield 274, 3) := by decide +kernel
theorem dX12_four_11 : decode cX12_four 11 = .ok (.iconst 4, 1) := by decide +kernel
theorem dX12_four_12 : decode cX12_four 12 = .ok (.iadd, 1) := by decide +kernel
theorem dX12_four_13 : decode cX12_four 13 = .ok (.aload_n 0, 1) := by decide +kernel
theorem dX12_four_14 : decode cX12_four 14 = .ok (.getfield 280, 3) := by decide +kernel
theorem dX12_four_17 : decode cX12_four 17 = .ok (.if_icmp .le 10, 3) := by decide +kernel
theorem dX12_four_20 : decode cX12_four 20 = .ok (.aload_n 0, 1) := by decide +kernel
theorem dX12_four_21 : decode cX12_four 21 = .ok (.sipush 129, 3) := by decide +kernel
theorem dX12_four_24 : decode cX12_four 24 = .ok (.invokevirtual 343, 3) := by decide +kernel
theorem dX12_four_27 : decode cX12_four 27 = .ok (.aload_n 0, 1) := by decide +kernel
theorem dX12_four_28 : decode cX12_four 28 = .ok (.invokevirtual 350, 3) := by decide +kernel
theorem dX12_four_31 : decode cX12_four 31 = .ok (.i2l, 1) := by decide +kernel
theorem dX12_four_32 : decode cX12_four 32 = .ok (.lstore_n 1, 1) := by decide +kernel
theorem dX12_four_33 : decode cX12_four 33 = .ok (.lload_n 1, 1) := by decide +kernel
theorem dX12_four_34 : decode cX12_four 34 = .ok (.bipush 16, 2) := by decide +kernel
theorem dX12_four_36 : decode cX12_four 36 = .ok (.lshl, 1) := by decide +kernel
theorem dX12_four_37 : decode cX12_four 37 = .ok (.aload_n 0, 1) := by decide +kernel
theorem dX12_four_38 : decode cX12_four 38 = .ok (.invokevirtual 350, 3) := by decide +kernel
theorem dX12_four_41 : decode cX12_four 41 = .ok (.i2l, 1) := by decide +kernel
theorem dX12_four_42 : decode cX12_four 42 = .ok (.lor, 1) := by decide +kernel
theorem dX12_four_43 : decode cX12_four 43 = .ok (.lreturn, 1) := by decide +kernel
theorem dX12_variable_0 : decode cX12_variable 0 = .ok (.lconst 0, 1) := by decide +kernel
theorem dX12_variable_1 : decode cX12_variable 1 = .ok (.lstore_n 1, 1) := by decide +kernel
theorem dX12_variable_2 : decode cX12_variable 2 = .ok (.iconst 0, 1) := by decide +kernel
theorem dX12_variable_3 : decode cX12_variable 3 = .ok (.istore_n 3, 1) := by decide +kernel
theorem dX12_variable_4 : decode cX12_variable 4 = .ok (.iload_n 3, 1) := by decide +kernel
theorem dX12_variable_5 : decode cX12_variable 5 = .ok (.iconst 4, 1) := by decide +kernel
theorem dX12_variable_6 : decode cX12_variable 6 = .ok (.if_icmp .ge 48, 3) := by decide +kernel
theorem dX12_variable_9 : decode cX12_variable 9 = .ok (.aload_n 0, 1) := by decide +kernel
theorem dX12_variable_10 : decode cX12_variable 10 = .ok (.invokevirtual 346, 3) := by decide +kernel
theorem dX12_variable_13 : decode cX12_variable 13 = .ok (.istore 4, 2) := by decide +kernel
theorem dX12_variable_15 : decode cX12_variable 15 = .ok (.aload_n 0, 1) := by decide +kernel
theorem dX12_variable_16 : decode cX12_variable 16 = .ok (.getfield 283, 3) := by decide +kernel
theorem dX12_variable_19 : decode cX12_variable 19 = .ok (.ifCond .eq 5, 3) := by decide +kernel
theorem dX12_variable_22 : decode cX12_variable 22 = .ok (.lconst 0, 1) := by decide +kernel
theorem dX12_variable_23 : decode cX12_variable 23 = .ok (.lreturn, 1) := by decide +kernel
theorem dX12_variable_24 : decode cX12_variable 24 = .ok (.lload_n 1, 1) := by decide +kernel
theorem dX12_variable_25 : decode cX12_variable 25 = .ok (.iload 4, 2) := by decide +kernel
theorem dX12_variable_27 : decode cX12_variable 27 = .ok (.bipush 127, 2) := by decide +kernel
theorem dX12_variable_29 : decode cX12_variable 29 = .ok (.iand, 1) := by decide +kernel
theorem dX12_variable_30 : decode cX12_variable 30 = .ok (.i2l, 1) := by decide +kernel
theorem dX12_variable_31 : decode cX12_variable 31 = .ok (.bipush 7, 2) := by decide +kernel
theorem dX12_variable_33 : decode cX12_variable 33 = .ok (.iload_n 3, 1) := by decide +kernel
theorem dX12_variable_34 : decode cX12_variable 34 = .ok (.imul, 1) := by decide +kernel
theorem dX12_variable_35 : decode cX12_variable 35 = .ok (.lshl, 1) := by decide +kernel
theorem dX12_variable_36 : decode cX12_variable 36 = .ok (.lor, 1) := by decide +kernel
theorem dX12_variable_37 : decode cX12_variable 37 = .ok (.lstore_n 1, 1) := by decide +kernel
theorem dX12_variable_38 : decode cX12_variable 38 = .ok (.iload 4, 2) := by decide +kernel
theorem dX12_variable_40 : decode cX12_variable 40 = .ok (.sipush 128, 3) := by decide +kernel
theorem dX12_variable_43 : decode cX12_variable 43 = .ok (.if_icmp .ge 5, 3) := by decide +kernel
theorem dX12_variable_46 : decode cX12_variable 46 = .ok (.lload_n 1, 1) := by decide +kernel
theorem dX12_variable_47 : decode cX12_variable 47 = .ok (.lreturn, 1) := by decide +kernel
theorem dX12_variable_48 : decode cX12_variable 48 = .ok (.iinc 3 1, 3) := by decide +kernel
theorem dX12_variable_51 : decode cX12_variable 51 = .ok (.goto (-47), 3) := by decide +kernel
theorem dX12_variable_54 : decode cX12_variable 54 = .ok (.aload_n 0, 1) := by decide +kernel
theorem dX12_variable_55 : decode cX12_variable 55 = .ok (.sipush 129, 3) := by decide +kernel
theorem dX12_variable_58 : decode cX12_variable 58 = .ok (.invokevirtual 343, 3) := by decide +kernel
theorem dX12_variable_61 : decode cX12_variable 61 = .ok (.lconst 0, 1) := by decide +kernel
theorem dX12_variable_62 : decode cX12_variable 62 = .ok (.lreturn, 1) := by decide +kernel
theorem dX12_row_0 : decode cX12_row 0 = .ok (.aload_n 0, 1) := by decide +kernel
theorem dX12_row_1 : decode cX12_row 1 = .ok (.invokevirtual 350, 3) := by decide +kernel
theorem dX12_row_4 : decode cX12_row 4 = .ok (.istore_n 1, 1) := by decide +kernel
theorem dX12_row_5 : decode cX12_row 5 = .ok (.aload_n 0, 1) := by decide +kernel
theorem dX12_row_6 : decode cX12_row 6 = .ok (.getfield 283, 3) := by decide +kernel
theorem dX12_row_9 : decode cX12_row 9 = .ok (.ifCond .ne 23, 3) := by decide +kernel
theorem dX12_row_12 : decode cX12_row 12 = .ok (.aload_n 0, 1) := by decide +kernel
theorem dX12_row_13 : decode cX12_row 13 = .ok (.getfield 274, 3) := by decide +kernel
theorem dX12_row_16 : decode cX12_row 16 = .ok (.iload_n 1, 1) := by decide +kernel
theorem dX12_row_17 : decode cX12_row 17 = .ok (.iadd, 1) := by decide +kernel
theorem dX12_row_18 : decode cX12_row 18 = .ok (.aload_n 0, 1) := by decide +kernel
theorem dX12_row_19 : decode cX12_row 19 = .ok (.getfield 280, 3) := by decide +kernel
theorem dX12_row_22 : decode cX12_row 22 = .ok (.if_icmp .le 10, 3) := by decide +kernel
theorem dX12_row_25 : decode cX12_row 25 = .ok (.aload_n 0, 1) := by decide +kernel
theorem dX12_row_26 : decode cX12_row 26 = .ok (.sipush 129, 3) := by decide +kernel
theorem dX12_row_29 : decode cX12_row 29 = .ok (.invokevirtual 343, 3) := by decide +kernel
theorem dX12_row_32 : decode cX12_row 32 = .ok (.aload_n 0, 1) := by decide +kernel
theorem dX12_row_33 : decode cX12_row 33 = .ok (.getfield 283, 3) := by decide +kernel
theorem dX12_row_36 : decode cX12_row 36 = .ok (.ifCond .eq 4, 3) := by decide +kernel
theorem dX12_row_39 : decode cX12_row 39 = .ok (.return_, 1) := by decide +kernel
theorem dX12_row_40 : decode cX12_row 40 = .ok (.aload_n 0, 1) := by decide +kernel
theorem dX12_row_41 : decode cX12_row 41 = .ok (.aload_n 0, 1) := by decide +kernel
theorem dX12_row_42 : decode cX12_row 42 = .ok (.getfield 274, 3) := by decide +kernel
theorem dX12_row_45 : decode cX12_row 45 = .ok (.putfield 353, 3) := by decide +kernel
theorem dX12_row_48 : decode cX12_row 48 = .ok (.aload_n 0, 1) := by decide +kernel
theorem dX12_row_49 : decode cX12_row 49 = .ok (.iload_n 1, 1) := by decide +kernel
theorem dX12_row_50 : decode cX12_row 50 = .ok (.putfield 356, 3) := by decide +kernel
theorem dX12_row_53 : decode cX12_row 53 = .ok (.aload_n 0, 1) := by decide +kernel
theorem dX12_row_54 : decode cX12_row 54 = .ok (.dup, 1) := by decide +kernel
theorem dX12_row_55 : decode cX12_row 55 = .ok (.getfield 274, 3) := by decide +kernel
theorem dX12_row_58 : decode cX12_row 58 = .ok (.iload_n 1, 1) := by decide +kernel
theorem dX12_row_59 : decode cX12_row 59 = .ok (.iadd, 1) := by decide +kernel
theorem dX12_row_60 : decode cX12_row 60 = .ok (.putfield 274, 3) := by decide +kernel
theorem dX12_row_63 : decode cX12_row 63 = .ok (.return_, 1) := by decide +kernel
theorem dX12_string_0 : decode cX12_string 0 = .ok (.aload_n 0, 1) := by decide +kernel
theorem dX12_string_1 : decode cX12_string 1 = .ok (.invokevirtual 359, 3) := by decide +kernel
theorem dX12_string_4 : decode cX12_string 4 = .ok (.aload_n 0, 1) := by decide +kernel
theorem dX12_string_5 : decode cX12_string 5 = .ok (.getfield 283, 3) := by decide +kernel
theorem dX12_string_8 : decode cX12_string 8 = .ok (.ifCond .ne 25, 3) := by decide +kernel
theorem dX12_string_11 : decode cX12_string 11 = .ok (.aload_n 0, 1) := by decide +kernel
theorem dX12_string_12 : decode cX12_string 12 = .ok (.aload_n 0, 1) := by decide +kernel
theorem dX12_string_13 : decode cX12_string 13 = .ok (.getfield 353, 3) := by decide +kernel
theorem dX12_string_16 : decode cX12_string 16 = .ok (.aload_n 0, 1) := by decide +kernel
theorem dX12_string_17 : decode cX12_string 17 = .ok (.getfield 356, 3) := by decide +kernel
theorem dX12_string_20 : decode cX12_string 20 = .ok (.invokevirtual 362, 3) := by decide +kernel
theorem dX12_string_23 : decode cX12_string 23 = .ok (.ifCond .ne 10, 3) := by decide +kernel
theorem dX12_string_26 : decode cX12_string 26 = .ok (.aload_n 0, 1) := by decide +kernel
theorem dX12_string_27 : decode cX12_string 27 = .ok (.sipush 129, 3) := by decide +kernel
theorem dX12_string_30 : decode cX12_string 30 = .ok (.invokevirtual 343, 3) := by decide +kernel
theorem dX12_string_33 : decode cX12_string 33 = .ok (.return_, 1) := by decide +kernel
theorem dX12_isText_0 : decode cX12_isText 0 = .ok (.iconst 0, 1) := by decide +kernel
theorem dX12_isText_1 : decode cX12_isText 1 = .ok (.istore_n 3, 1) := by decide +kernel
theorem dX12_isText_2 : decode cX12_isText 2 = .ok (.iload_n 3, 1) := by decide +kernel
theorem dX12_isText_3 : decode cX12_isText 3 = .ok (.iload_n 2, 1) := by decide +kernel
theorem dX12_isText_4 : decode cX12_isText 4 = .ok (.if_icmp .ge 279, 3) := by decide +kernel
theorem dX12_isText_7 : decode cX12_isText 7 = .ok (.aload_n 0, 1) := by decide +kernel
theorem dX12_isText_8 : decode cX12_isText 8 = .ok (.getfield 31, 3) := by decide +kernel
theorem dX12_isText_11 : decode cX12_isText 11 = .ok (.iload_n 1, 1) := by decide +kernel
theorem dX12_isText_12 : decode cX12_isText 12 = .ok (.iload_n 3, 1) := by decide +kernel
theorem dX12_isText_13 : decode cX12_isText 13 = .ok (.iadd, 1) := by decide +kernel
theorem dX12_isText_14 : decode cX12_isText 14 = .ok (.baload, 1) := by decide +kernel
theorem dX12_isText_15 : decode cX12_isText 15 = .ok (.sipush 255, 3) := by decide +kernel
theorem dX12_isText_18 : decode cX12_isText 18 = .ok (.iand, 1) := by decide +kernel
theorem dX12_isText_19 : decode cX12_isText 19 = .ok (.istore 4, 2) := by decide +kernel
theorem dX12_isText_21 : decode cX12_isText 21 = .ok (.iload 4, 2) := by decide +kernel
theorem dX12_isText_23 : decode cX12_isText 23 = .ok (.sipush 128, 3) := by decide +kernel
theorem dX12_isText_26 : decode cX12_isText 26 = .ok (.if_icmp .ge 7, 3) := by decide +kernel
theorem dX12_isText_29 : decode cX12_isText 29 = .ok (.iconst 0, 1) := by decide +kernel
theorem dX12_isText_30 : decode cX12_isText 30 = .ok (.goto 64, 3) := by decide +kernel
theorem dX12_isText_33 : decode cX12_isText 33 = .ok (.iload 4, 2) := by decide +kernel
theorem dX12_isText_35 : decode cX12_isText 35 = .ok (.sipush 194, 3) := by decide +kernel
theorem dX12_isText_38 : decode cX12_isText 38 = .ok (.if_icmp .lt 15, 3) := by decide +kernel
theorem dX12_isText_41 : decode cX12_isText 41 = .ok (.iload 4, 2) := by decide +kernel
theorem dX12_isText_43 : decode cX12_isText 43 = .ok (.sipush 224, 3) := by decide +kernel
theorem dX12_isText_46 : decode cX12_isText 46 = .ok (.if_icmp .ge 7, 3) := by decide +kernel
theorem dX12_isText_49 : decode cX12_isText 49 = .ok (.iconst 1, 1) := by decide +kernel
theorem dX12_isText_50 : decode cX12_isText 50 = .ok (.goto 44, 3) := by decide +kernel
theorem dX12_isText_53 : decode cX12_isText 53 = .ok (.iload 4, 2) := by decide +kernel
theorem dX12_isText_55 : decode cX12_isText 55 = .ok (.sipush 224, 3) := by decide +kernel
theorem dX12_isText_58 : decode cX12_isText 58 = .ok (.if_icmp .lt 15, 3) := by decide +kernel
theorem dX12_isText_61 : decode cX12_isText 61 = .ok (.iload 4, 2) := by decide +kernel
theorem dX12_isText_63 : decode cX12_isText 63 = .ok (.sipush 240, 3) := by decide +kernel
theorem dX12_isText_66 : decode cX12_isText 66 = .ok (.if_icmp .ge 7, 3) := by decide +kernel
theorem dX12_isText_69 : decode cX12_isText 69 = .ok (.iconst 2, 1) := by decide +kernel
theorem dX12_isText_70 : decode cX12_isText 70 = .ok (.goto 24, 3) := by decide +kernel
theorem dX12_isText_73 : decode cX12_isText 73 = .ok (.iload 4, 2) := by decide +kernel
theorem dX12_isText_75 : decode cX12_isText 75 = .ok (.sipush 240, 3) := by decide +kernel
theorem dX12_isText_78 : decode cX12_isText 78 = .ok (.if_icmp .lt 15, 3) := by decide +kernel
theorem dX12_isText_81 : decode cX12_isText 81 = .ok (.iload 4, 2) := by decide +kernel
theorem dX12_isText_83 : decode cX12_isText 83 = .ok (.sipush 245, 3) := by decide +kernel
theorem dX12_isText_86 : decode cX12_isText 86 = .ok (.if_icmp .ge 7, 3) := by decide +kernel
theorem dX12_isText_89 : decode cX12_isText 89 = .ok (.iconst 3, 1) := by decide +kernel
theorem dX12_isText_90 : decode cX12_isText 90 = .ok (.goto 4, 3) := by decide +kernel
theorem dX12_isText_93 : decode cX12_isText 93 = .ok (.iconst (-1), 1) := by decide +kernel
theorem dX12_isText_94 : decode cX12_isText 94 = .ok (.istore 5, 2) := by decide +kernel
theorem dX12_isText_96 : decode cX12_isText 96 = .ok (.iload 4, 2) := by decide +kernel
theorem dX12_isText_98 : decode cX12_isText 98 = .ok (.ifCond .eq 16, 3) := by decide +kernel
theorem dX12_isText_101 : decode cX12_isText 101 = .ok (.iload 5, 2) := by decide +kernel
theorem dX12_isText_103 : decode cX12_isText 103 = .ok (.ifCond .lt 11, 3) := by decide +kernel
theorem dX12_isText_106 : decode cX12_isText 106 = .ok (.iload_n 3, 1) := by decide +kernel
theorem dX12_isText_107 : decode cX12_isText 107 = .ok (.iload 5, 2) := by decide +kernel
theorem dX12_isText_109 : decode cX12_isText 109 = .ok (.iadd, 1) := by decide +kernel
theorem dX12_isText_110 : decode cX12_isText 110 = .ok (.iload_n 2, 1) := by decide +kernel
theorem dX12_isText_111 : decode cX12_isText 111 = .ok (.if_icmp .lt 5, 3) := by decide +kernel
theorem dX12_isText_114 : decode cX12_isText 114 = .ok (.iconst 0, 1) := by decide +kernel
theorem dX12_isText_115 : decode cX12_isText 115 = .ok (.ireturn, 1) := by decide +kernel
theorem dX12_isText_116 : decode cX12_isText 116 = .ok (.iload 5, 2) := by decide +kernel
theorem dX12_isText_118 : decode cX12_isText 118 = .ok (.ifCond .ne 8, 3) := by decide +kernel
theorem dX12_isText_121 : decode cX12_isText 121 = .ok (.iload 4, 2) := by decide +kernel
theorem dX12_isText_123 : decode cX12_isText 123 = .ok (.goto 30, 3) := by decide +kernel
theorem dX12_isText_126 : decode cX12_isText 126 = .ok (.iload 4, 2) := by decide +kernel
theorem dX12_isText_128 : decode cX12_isText 128 = .ok (.iload 5, 2) := by decide +kernel
theorem dX12_isText_130 : decode cX12_isText 130 = .ok (.iconst 1, 1) := by decide +kernel
theorem dX12_isText_131 : decode cX12_isText 131 = .ok (.if_icmp .ne 8, 3) := by decide +kernel
theorem dX12_isText_134 : decode cX12_isText 134 = .ok (.bipush 31, 2) := by decide +kernel
theorem dX12_isText_136 : decode cX12_isText 136 = .ok (.goto 16, 3) := by decide +kernel
theorem dX12_isText_139 : decode cX12_isText 139 = .ok (.iload 5, 2) := by decide +kernel
theorem dX12_isText_141 : decode cX12_isText 141 = .ok (.iconst 2, 1) := by decide +kernel
theorem dX12_isText_142 : decode cX12_isText 142 = .ok (.if_icmp .ne 8, 3) := by decide +kernel
theorem dX12_isText_145 : decode cX12_isText 145 = .ok (.bipush 15, 2) := by decide +kernel
theorem dX12_isText_147 : decode cX12_isText 147 = .ok (.goto 5, 3) := by decide +kernel
theorem dX12_isText_150 : decode cX12_isText 150 = .ok (.bipush 7, 2) := by decide +kernel
theorem dX12_isText_152 : decode cX12_isText 152 = .ok (.iand, 1) := by decide +kernel
theorem dX12_isText_153 : decode cX12_isText 153 = .ok (.istore 6, 2) := by decide +kernel
theorem dX12_isText_155 : decode cX12_isText 155 = .ok (.iconst 1, 1) := by decide +kernel
theorem dX12_isText_156 : decode cX12_isText 156 = .ok (.istore 7, 2) := by decide +kernel
theorem dX12_isText_158 : decode cX12_isText 158 = .ok (.iload 7, 2) := by decide +kernel
theorem dX12_isText_160 : decode cX12_isText 160 = .ok (.iload 5, 2) := by decide +kernel
theorem dX12_isText_162 : decode cX12_isText 162 = .ok (.if_icmp .gt 57, 3) := by decide +kernel
theorem dX12_isText_165 : decode cX12_isText 165 = .ok (.aload_n 0, 1) := by decide +kernel
theorem dX12_isText_166 : decode cX12_isText 166 = .ok (.getfield 31, 3) := by decide +kernel
theorem dX12_isText_169 : decode cX12_isText 169 = .ok (.iload_n 1, 1) := by decide +kernel
theorem dX12_isText_170 : decode cX12_isText 170 = .ok (.iload_n 3, 1) := by decide +kernel
theorem dX12_isText_171 : decode cX12_isText 171 = .ok (.iadd, 1) := by decide +kernel
theorem dX12_isText_172 : decode cX12_isText 172 = .ok (.iload 7, 2) := by decide +kernel
theorem dX12_isText_174 : decode cX12_isText 174 = .ok (.iadd, 1) := by decide +kernel
theorem dX12_isText_175 : decode cX12_isText 175 = .ok (.baload, 1) := by decide +kernel
theorem dX12_isText_176 : decode cX12_isText 176 = .ok (.sipush 255, 3) := by decide +kernel
theorem dX12_isText_179 : decode cX12_isText 179 = .ok (.iand, 1) := by decide +kernel
theorem dX12_isText_180 : decode cX12_isText 180 = .ok (.istore 8, 2) := by decide +kernel
theorem dX12_isText_182 : decode cX12_isText 182 = .ok (.iload 8, 2) := by decide +kernel
theorem dX12_isText_184 : decode cX12_isText 184 = .ok (.sipush 128, 3) := by decide +kernel
theorem dX12_isText_187 : decode cX12_isText 187 = .ok (.if_icmp .lt 11, 3) := by decide +kernel
theorem dX12_isText_190 : decode cX12_isText 190 = .ok (.iload 8, 2) := by decide +kernel
theorem dX12_isText_192 : decode cX12_isText 192 = .ok (.sipush 191, 3) := by decide +kernel
theorem dX12_isText_195 : decode cX12_isText 195 = .ok (.if_icmp .le 5, 3) := by decide +kernel
theorem dX12_isText_198 : decode cX12_isText 198 = .ok (.iconst 0, 1) := by decide +kernel
theorem dX12_isText_199 : decode cX12_isText 199 = .ok (.ireturn, 1) := by decide +kernel
theorem dX12_isText_200 : decode cX12_isText 200 = .ok (.iload 6, 2) := by decide +kernel
theorem dX12_isText_202 : decode cX12_isText 202 = .ok (.bipush 6, 2) := by decide +kernel
theorem dX12_isText_204 : decode cX12_isText 204 = .ok (.ishl, 1) := by decide +kernel
theorem dX12_isText_205 : decode cX12_isText 205 = .ok (.iload 8, 2) := by decide +kernel
theorem dX12_isText_207 : decode cX12_isText 207 = .ok (.bipush 63, 2) := by decide +kernel
theorem dX12_isText_209 : decode cX12_isText 209 = .ok (.iand, 1) := by decide +kernel
theorem dX12_isText_210 : decode cX12_isText 210 = .ok (.ior, 1) := by decide +kernel
theorem dX12_isText_211 : decode cX12_isText 211 = .ok (.istore 6, 2) := by decide +kernel
theorem dX12_isText_213 : decode cX12_isText 213 = .ok (.iinc 7 1, 3) := by decide +kernel
theorem dX12_isText_216 : decode cX12_isText 216 = .ok (.goto (-58), 3) := by decide +kernel
theorem dX12_isText_219 : decode cX12_isText 219 = .ok (.iload 5, 2) := by decide +kernel
theorem dX12_isText_221 : decode cX12_isText 221 = .ok (.iconst 2, 1) := by decide +kernel
theorem dX12_isText_222 : decode cX12_isText 222 = .ok (.if_icmp .ne 27, 3) := by decide +kernel
theorem dX12_isText_225 : decode cX12_isText 225 = .ok (.iload 6, 2) := by decide +kernel
theorem dX12_isText_227 : decode cX12_isText 227 = .ok (.sipush 2048, 3) := by decide +kernel
theorem dX12_isText_230 : decode cX12_isText 230 = .ok (.if_icmp .lt 41, 3) := by decide +kernel
theorem dX12_isText_233 : decode cX12_isText 233 = .ok (.iload 6, 2) := by decide +kernel
theorem dX12_isText_235 : decode cX12_isText 235 = .ok (.ldc_w 366, 3) := by decide +kernel
theorem dX12_isText_238 : decode cX12_isText 238 = .ok (.if_icmp .lt 11, 3) := by decide +kernel
theorem dX12_isText_241 : decode cX12_isText 241 = .ok (.iload 6, 2) := by decide +kernel
theorem dX12_isText_243 : decode cX12_isText 243 = .ok (.ldc_w 367, 3) := by decide +kernel
theorem dX12_isText_246 : decode cX12_isText 246 = .ok (.if_icmp .le 25, 3) := by decide +kernel
theorem dX12_isText_249 : decode cX12_isText 249 = .ok (.iload 5, 2) := by decide +kernel
theorem dX12_isText_251 : decode cX12_isText 251 = .ok (.iconst 3, 1) := by decide +kernel
theorem dX12_isText_252 : decode cX12_isText 252 = .ok (.if_icmp .ne 21, 3) := by decide +kernel
theorem dX12_isText_255 : decode cX12_isText 255 = .ok (.iload 6, 2) := by decide +kernel
theorem dX12_isText_257 : decode cX12_isText 257 = .ok (.ldc_w 368, 3) := by decide +kernel
theorem dX12_isText_260 : decode cX12_isText 260 = .ok (.if_icmp .lt 11, 3) := by decide +kernel
theorem dX12_isText_263 : decode cX12_isText 263 = .ok (.iload 6, 2) := by decide +kernel
theorem dX12_isText_265 : decode cX12_isText 265 = .ok (.ldc_w 369, 3) := by decide +kernel
theorem dX12_isText_268 : decode cX12_isText 268 = .ok (.if_icmp .le 5, 3) := by decide +kernel
theorem dX12_isText_271 : decode cX12_isText 271 = .ok (.iconst 0, 1) := by decide +kernel
theorem dX12_isText_272 : decode cX12_isText 272 = .ok (.ireturn, 1) := by decide +kernel
theorem dX12_isText_273 : decode cX12_isText 273 = .ok (.iload_n 3, 1) := by decide +kernel
theorem dX12_isText_274 : decode cX12_isText 274 = .ok (.iload 5, 2) := by decide +kernel
theorem dX12_isText_276 : decode cX12_isText 276 = .ok (.iconst 1, 1) := by decide +kernel
theorem dX12_isText_277 : decode cX12_isText 277 = .ok (.iadd, 1) := by decide +kernel
theorem dX12_isText_278 : decode cX12_isText 278 = .ok (.iadd, 1) := by decide +kernel
theorem dX12_isText_279 : decode cX12_isText 279 = .ok (.istore_n 3, 1) := by decide +kernel
theorem dX12_isText_280 : decode cX12_isText 280 = .ok (.goto (-278), 3) := by decide +kernel
theorem dX12_isText_283 : decode cX12_isText 283 = .ok (.iconst 1, 1) := by decide +kernel
theorem dX12_isText_284 : decode cX12_isText 284 = .ok (.ireturn, 1) := by decide +kernel
theorem dX12_bit_0 : decode cX12_bit 0 = .ok (.lconst 1, 1) := by decide +kernel
theorem dX12_bit_1 : decode cX12_bit 1 = .ok (.iload_n 0, 1) := by decide +kernel
theorem dX12_bit_2 : decode cX12_bit 2 = .ok (.lshl, 1) := by decide +kernel
theorem dX12_bit_3 : decode cX12_bit 3 = .ok (.lreturn, 1) := by decide +kernel
theorem dX12_properties_0 : decode cX12_properties 0 = .ok (.iconst 0, 1) := by decide +kernel
theorem dX12_properties_1 : decode cX12_properties 1 = .ok (.istore_n 3, 1) := by decide +kernel
theorem dX12_properties_2 : decode cX12_properties 2 = .ok (.iload_n 3, 1) := by decide +kernel
theorem dX12_properties_3 : decode cX12_properties 3 = .ok (.bipush 64, 2) := by decide +kernel
theorem dX12_properties_5 : decode cX12_properties 5 = .ok (.if_icmp .ge 16, 3) := by decide +kernel
theorem dX12_properties_8 : decode cX12_properties 8 = .ok (.aload_n 0, 1) := by decide +kernel
theorem dX12_properties_9 : decode cX12_properties 9 = .ok (.getfield 210, 3) := by decide +kernel
theorem dX12_properties_12 : decode cX12_properties 12 = .ok (.iload_n 3, 1) := by decide +kernel
theorem dX12_properties_13 : decode cX12_properties 13 = .ok (.iconst 0, 1) := by decide +kernel
theorem dX12_properties_14 : decode cX12_properties 14 = .ok (.bastore, 1) := by decide +kernel
theorem dX12_properties_15 : decode cX12_properties 15 = .ok (.iinc 3 1, 3) := by decide +kernel
theorem dX12_properties_18 : decode cX12_properties 18 = .ok (.goto (-16), 3) := by decide +kernel
theorem dX12_properties_21 : decode cX12_properties 21 = .ok (.aload_n 0, 1) := by decide +kernel
theorem dX12_properties_22 : decode cX12_properties 22 = .ok (.iconst 0, 1) := by decide +kernel
theorem dX12_properties_23 : decode cX12_properties 23 = .ok (.putfield 370, 3) := by decide +kernel
theorem dX12_properties_26 : decode cX12_properties 26 = .ok (.aload_n 0, 1) := by decide +kernel
theorem dX12_properties_27 : decode cX12_properties 27 = .ok (.invokevirtual 373, 3) := by decide +kernel
theorem dX12_properties_30 : decode cX12_properties 30 = .ok (.lstore_n 3, 1) := by decide +kernel
theorem dX12_properties_31 : decode cX12_properties 31 = .ok (.aload_n 0, 1) := by decide +kernel
theorem dX12_properties_32 : decode cX12_properties 32 = .ok (.getfield 283, 3) := by decide +kernel
theorem dX12_properties_35 : decode cX12_properties 35 = .ok (.ifCond .eq 4, 3) := by decide +kernel
theorem dX12_properties_38 : decode cX12_properties 38 = .ok (.return_, 1) := by decide +kernel
theorem dX12_properties_39 : decode cX12_properties 39 = .ok (.aload_n 0, 1) := by decide +kernel
theorem dX12_properties_40 : decode cX12_properties 40 = .ok (.getfield 274, 3) := by decide +kernel
theorem dX12_properties_43 : decode cX12_properties 43 = .ok (.i2l, 1) := by decide +kernel
theorem dX12_properties_44 : decode cX12_properties 44 = .ok (.lload_n 3, 1) := by decide +kernel
theorem dX12_properties_45 : decode cX12_properties 45 = .ok (.ladd, 1) := by decide +kernel
theorem dX12_properties_46 : decode cX12_properties 46 = .ok (.aload_n 0, 1) := by decide +kernel
theorem dX12_properties_47 : decode cX12_properties 47 = .ok (.getfield 277, 3) := by decide +kernel
theorem dX12_properties_50 : decode cX12_properties 50 = .ok (.i2l, 1) := by decide +kernel
theorem dX12_properties_51 : decode cX12_properties 51 = .ok (.lcmp, 1) := by decide +kernel
theorem dX12_properties_52 : decode cX12_properties 52 = .ok (.ifCond .le 11, 3) := by decide +kernel
theorem dX12_properties_55 : decode cX12_properties 55 = .ok (.aload_n 0, 1) := by decide +kernel
theorem dX12_properties_56 : decode cX12_properties 56 = .ok (.sipush 129, 3) := by decide +kernel
theorem dX12_properties_59 : decode cX12_properties 59 = .ok (.invokevirtual 343, 3) := by decide +kernel
theorem dX12_properties_62 : decode cX12_properties 62 = .ok (.return_, 1) := by decide +kernel
theorem dX12_properties_63 : decode cX12_properties 63 = .ok (.aload_n 0, 1) := by decide +kernel
theorem dX12_properties_64 : decode cX12_properties 64 = .ok (.aload_n 0, 1) := by decide +kernel
theorem dX12_properties_65 : decode cX12_properties 65 = .ok (.getfield 274, 3) := by decide +kernel
theorem dX12_properties_68 : decode cX12_properties 68 = .ok (.i2l, 1) := by decide +kernel
theorem dX12_properties_69 : decode cX12_properties 69 = .ok (.lload_n 3, 1) := by decide +kernel
theorem dX12_properties_70 : decode cX12_properties 70 = .ok (.ladd, 1) := by decide +kernel
theorem dX12_properties_71 : decode cX12_properties 71 = .ok (.l2i, 1) := by decide +kernel
theorem dX12_properties_72 : decode cX12_properties 72 = .ok (.putfield 280, 3) := by decide +kernel
theorem dX12_properties_75 : decode cX12_properties 75 = .ok (.aload_n 0, 1) := by decide +kernel
theorem dX12_properties_76 : decode cX12_properties 76 = .ok (.getfield 274, 3) := by decide +kernel
theorem dX12_properties_79 : decode cX12_properties 79 = .ok (.aload_n 0, 1) := by decide +kernel
theorem dX12_properties_80 : decode cX12_properties 80 = .ok (.getfield 280, 3) := by decide +kernel
theorem dX12_properties_83 : decode cX12_properties 83 = .ok (.if_icmp .ge 18, 3) := by decide +kernel
theorem dX12_properties_86 : decode cX12_properties 86 = .ok (.aload_n 0, 1) := by decide +kernel
theorem dX12_properties_87 : decode cX12_properties 87 = .ok (.getfield 283, 3) := by decide +kernel
theorem dX12_properties_90 : decode cX12_properties 90 = .ok (.ifCond .ne 11, 3) := by decide +kernel
theorem dX12_properties_93 : decode cX12_properties 93 = .ok (.aload_n 0, 1) := by decide +kernel
theorem dX12_properties_94 : decode cX12_properties 94 = .ok (.lload_n 1, 1) := by decide +kernel
theorem dX12_properties_95 : decode cX12_properties 95 = .ok (.invokevirtual 377, 3) := by decide +kernel
theorem dX12_properties_98 : decode cX12_properties 98 = .ok (.goto (-23), 3) := by decide +kernel
theorem dX12_properties_101 : decode cX12_properties 101 = .ok (.aload_n 0, 1) := by decide +kernel
theorem dX12_properties_102 : decode cX12_properties 102 = .ok (.aload_n 0, 1) := by decide +kernel
theorem dX12_properties_103 : decode cX12_properties 103 = .ok (.getfield 277, 3) := by decide +kernel
theorem dX12_properties_106 : decode cX12_properties 106 = .ok (.putfield 280, 3) := by decide +kernel
theorem dX12_properties_109 : decode cX12_properties 109 = .ok (.return_, 1) := by decide +kernel
theorem dX12_property_0 : decode cX12_property 0 = .ok (.aload_n 0, 1) := by decide +kernel
theorem dX12_property_1 : decode cX12_property 1 = .ok (.getfield 274, 3) := by decide +kernel
theorem dX12_property_4 : decode cX12_property 4 = .ok (.istore_n 3, 1) := by decide +kernel
theorem dX12_property_5 : decode cX12_property 5 = .ok (.aload_n 0, 1) := by decide +kernel
theorem dX12_property_6 : decode cX12_property 6 = .ok (.invokevirtual 346, 3) := by decide +kernel
theorem dX12_property_9 : decode cX12_property 9 = .ok (.istore 4, 2) := by decide +kernel
theorem dX12_property_11 : decode cX12_property 11 = .ok (.aload_n 0, 1) := by decide +kernel
theorem dX12_property_12 : decode cX12_property 12 = .ok (.getfield 283, 3) := by decide +kernel
theorem dX12_property_15 : decode cX12_property 15 = .ok (.ifCond .eq 4, 3) := by decide +kernel
theorem dX12_property_18 : decode cX12_property 18 = .ok (.return_, 1) := by decide +kernel
theorem dX12_property_19 : decode cX12_property 19 = .ok (.iload 4, 2) := by decide +kernel
theorem dX12_property_21 : decode cX12_property 21 = .ok (.bipush 63, 2) := by decide +kernel
theorem dX12_property_23 : decode cX12_property 23 = .ok (.if_icmp .gt 32, 3) := by decide +kernel
theorem dX12_property_26 : decode cX12_property 26 = .ok (.lload_n 1, 1) := by decide +kernel
theorem dX12_property_27 : decode cX12_property 27 = .ok (.iload 4, 2) := by decide +kernel
theorem dX12_property_29 : decode cX12_property 29 = .ok (.invokestatic 381, 3) := by decide +kernel
theorem dX12_property_32 : decode cX12_property 32 = .ok (.land, 1) := by decide +kernel
theorem dX12_property_33 : decode cX12_property 33 = .ok (.lconst 0, 1) := by decide +kernel
theorem dX12_property_34 : decode cX12_property 34 = .ok (.lcmp, 1) := by decide +kernel
theorem dX12_property_35 : decode cX12_property 35 = .ok (.ifCond .eq 20, 3) := by decide +kernel
theorem dX12_property_38 : decode cX12_property 38 = .ok (.iload 4, 2) := by decide +kernel
theorem dX12_property_40 : decode cX12_property 40 = .ok (.bipush 38, 2) := by decide +kernel
theorem dX12_property_42 : decode cX12_property 42 = .ok (.if_icmp .eq 21, 3) := by decide +kernel
theorem dX12_property_45 : decode cX12_property 45 = .ok (.aload_n 0, 1) := by decide +kernel
theorem dX12_property_46 : decode cX12_property 46 = .ok (.getfield 210, 3) := by decide +kernel
theorem dX12_property_49 : decode cX12_property 49 = .ok (.iload 4, 2) := by decide +kernel
theorem dX12_property_51 : decode cX12_property 51 = .ok (.baload, 1) := by decide +kernel
theorem dX12_property_52 : decode cX12_property 52 = .ok (.ifCond .eq 11, 3) := by decide +kernel
theorem dX12_property_55 : decode cX12_property 55 = .ok (.aload_n 0, 1) := by decide +kernel
theorem dX12_property_56 : decode cX12_property 56 = .ok (.sipush 130, 3) := by decide +kernel
theorem dX12_property_59 : decode cX12_property 59 = .ok (.invokevirtual 343, 3) := by decide +kernel
theorem dX12_property_62 : decode cX12_property 62 = .ok (.return_, 1) := by decide +kernel
theorem dX12_property_63 : decode cX12_property 63 = .ok (.aload_n 0, 1) := by decide +kernel
theorem dX12_property_64 : decode cX12_property 64 = .ok (.getfield 210, 3) := by decide +kernel
theorem dX12_property_67 : decode cX12_property 67 = .ok (.iload 4, 2) := by decide +kernel
theorem dX12_property_69 : decode cX12_property 69 = .ok (.iconst 1, 1) := by decide +kernel
theorem dX12_property_70 : decode cX12_property 70 = .ok (.bastore, 1) := by decide +kernel
theorem dX12_property_71 : decode cX12_property 71 = .ok (.iload 4, 2) := by decide +kernel
theorem dX12_property_73 : decode cX12_property 73 = .ok (.iconst 1, 1) := by decide +kernel
theorem dX12_property_74 : decode cX12_property 74 = .ok (.if_icmp .eq 17, 3) := by decide +kernel
theorem dX12_property_77 : decode cX12_property 77 = .ok (.iload 4, 2) := by decide +kernel
theorem dX12_property_79 : decode cX12_property 79 = .ok (.bipush 23, 2) := by decide +kernel
theorem dX12_property_81 : decode cX12_property 81 = .ok (.if_icmp .eq 10, 3) := by decide +kernel
theorem dX12_property_84 : decode cX12_property 84 = .ok (.iload 4, 2) := by decide +kernel
theorem dX12_property_86 : decode cX12_property 86 = .ok (.bipush 25, 2) := by decide +kernel
theorem dX12_property_88 : decode cX12_property 88 = .ok (.if_icmp .ne 44, 3) := by decide +kernel
theorem dX12_property_91 : decode cX12_property 91 = .ok (.aload_n 0, 1) := by decide +kernel
theorem dX12_property_92 : decode cX12_property 92 = .ok (.getfield 213, 3) := by decide +kernel
theorem dX12_property_95 : decode cX12_property 95 = .ok (.iload 4, 2) := by decide +kernel
theorem dX12_property_97 : decode cX12_property 97 = .ok (.aload_n 0, 1) := by decide +kernel
theorem dX12_property_98 : decode cX12_property 98 = .ok (.invokevirtual 346, 3) := by decide +kernel
theorem dX12_property_101 : decode cX12_property 101 = .ok (.i2l, 1) := by decide +kernel
theorem dX12_property_102 : decode cX12_property 102 = .ok (.lastore, 1) := by decide +kernel
theorem dX12_property_103 : decode cX12_property 103 = .ok (.aload_n 0, 1) := by decide +kernel
theorem dX12_property_104 : decode cX12_property 104 = .ok (.getfield 283, 3) := by decide +kernel
theorem dX12_property_107 : decode cX12_property 107 = .ok (.ifCond .ne 220, 3) := by decide +kernel
theorem dX12_property_110 : decode cX12_property 110 = .ok (.aload_n 0, 1) := by decide +kernel
theorem dX12_property_111 : decode cX12_property 111 = .ok (.getfield 213, 3) := by decide +kernel
theorem dX12_property_114 : decode cX12_property 114 = .ok (.iload 4, 2) := by decide +kernel
theorem dX12_property_116 : decode cX12_property 116 = .ok (.laload, 1) := by decide +kernel
theorem dX12_property_117 : decode cX12_property 117 = .ok (.lconst 1, 1) := by decide +kernel
theorem dX12_property_118 : decode cX12_property 118 = .ok (.lcmp, 1) := by decide +kernel
theorem dX12_property_119 : decode cX12_property 119 = .ok (.ifCond .le 208, 3) := by decide +kernel
theorem dX12_property_122 : decode cX12_property 122 = .ok (.aload_n 0, 1) := by decide +kernel
theorem dX12_property_123 : decode cX12_property 123 = .ok (.sipush 129, 3) := by decide +kernel
theorem dX12_property_126 : decode cX12_property 126 = .ok (.invokevirtual 343, 3) := by decide +kernel
theorem dX12_property_129 : decode cX12_property 129 = .ok (.goto 198, 3) := by decide +kernel
theorem dX12_property_132 : decode cX12_property 132 = .ok (.iload 4, 2) := by decide +kernel
theorem dX12_property_134 : decode cX12_property 134 = .ok (.iconst 2, 1) := by decide +kernel
theorem dX12_property_135 : decode cX12_property 135 = .ok (.if_icmp .eq 24, 3) := by decide +kernel
theorem dX12_property_138 : decode cX12_property 138 = .ok (.iload 4, 2) := by decide +kernel
theorem dX12_property_140 : decode cX12_property 140 = .ok (.bipush 17, 2) := by decide +kernel
theorem dX12_property_142 : decode cX12_property 142 = .ok (.if_icmp .eq 17, 3) := by decide +kernel
theorem dX12_property_145 : decode cX12_property 145 = .ok (.iload 4, 2) := by decide +kernel
theorem dX12_property_147 : decode cX12_property 147 = .ok (.bipush 24, 2) := by decide +kernel
theorem dX12_property_149 : decode cX12_property 149 = .ok (.if_icmp .eq 10, 3) := by decide +kernel
theorem dX12_property_152 : decode cX12_property 152 = .ok (.iload 4, 2) := by decide +kernel
theorem dX12_property_154 : decode cX12_property 154 = .ok (.bipush 39, 2) := by decide +kernel
theorem dX12_property_156 : decode cX12_property 156 = .ok (.if_icmp .ne 17, 3) := by decide +kernel
theorem dX12_property_159 : decode cX12_property 159 = .ok (.aload_n 0, 1) := by decide +kernel
theorem dX12_property_160 : decode cX12_property 160 = .ok (.getfield 213, 3) := by decide +kernel
theorem dX12_property_163 : decode cX12_property 163 = .ok (.iload 4, 2) := by decide +kernel
theorem dX12_property_165 : decode cX12_property 165 = .ok (.aload_n 0, 1) := by decide +kernel
theorem dX12_property_166 : decode cX12_property 166 = .ok (.invokevirtual 385, 3) := by decide +kernel
theorem dX12_property_169 : decode cX12_property 169 = .ok (.lastore, 1) := by decide +kernel
theorem dX12_property_170 : decode cX12_property 170 = .ok (.goto 157, 3) := by decide +kernel
theorem dX12_property_173 : decode cX12_property 173 = .ok (.iload 4, 2) := by decide +kernel
theorem dX12_property_175 : decode cX12_property 175 = .ok (.iconst 3, 1) := by decide +kernel
theorem dX12_property_176 : decode cX12_property 176 = .ok (.if_icmp .eq 24, 3) := by decide +kernel
theorem dX12_property_179 : decode cX12_property 179 = .ok (.iload 4, 2) := by decide +kernel
theorem dX12_property_181 : decode cX12_property 181 = .ok (.bipush 8, 2) := by decide +kernel
theorem dX12_property_183 : decode cX12_property 183 = .ok (.if_icmp .eq 17, 3) := by decide +kernel
theorem dX12_property_186 : decode cX12_property 186 = .ok (.iload 4, 2) := by decide +kernel
theorem dX12_property_188 : decode cX12_property 188 = .ok (.bipush 21, 2) := by decide +kernel
theorem dX12_property_190 : decode cX12_property 190 = .ok (.if_icmp .eq 10, 3) := by decide +kernel
theorem dX12_property_193 : decode cX12_property 193 = .ok (.iload 4, 2) := by decide +kernel
theorem dX12_property_195 : decode cX12_property 195 = .ok (.bipush 31, 2) := by decide +kernel
theorem dX12_property_197 : decode cX12_property 197 = .ok (.if_icmp .ne 10, 3) := by decide +kernel
theorem dX12_property_200 : decode cX12_property 200 = .ok (.aload_n 0, 1) := by decide +kernel
theorem dX12_property_201 : decode cX12_property 201 = .ok (.invokevirtual 388, 3) := by decide +kernel
theorem dX12_property_204 : decode cX12_property 204 = .ok (.goto 123, 3) := by decide +kernel
theorem dX12_property_207 : decode cX12_property 207 = .ok (.iload 4, 2) := by decide +kernel
theorem dX12_property_209 : decode cX12_property 209 = .ok (.bipush 9, 2) := by decide +kernel
theorem dX12_property_211 : decode cX12_property 211 = .ok (.if_icmp .eq 10, 3) := by decide +kernel
theorem dX12_property_214 : decode cX12_property 214 = .ok (.iload 4, 2) := by decide +kernel
theorem dX12_property_216 : decode cX12_property 216 = .ok (.bipush 22, 2) := by decide +kernel
theorem dX12_property_218 : decode cX12_property 218 = .ok (.if_icmp .ne 10, 3) := by decide +kernel
theorem dX12_property_221 : decode cX12_property 221 = .ok (.aload_n 0, 1) := by decide +kernel
theorem dX12_property_222 : decode cX12_property 222 = .ok (.invokevirtual 359, 3) := by decide +kernel
theorem dX12_property_225 : decode cX12_property 225 = .ok (.goto 102, 3) := by decide +kernel
theorem dX12_property_228 : decode cX12_property 228 = .ok (.iload 4, 2) := by decide +kernel
theorem dX12_property_230 : decode cX12_property 230 = .ok (.bipush 11, 2) := by decide +kernel
theorem dX12_property_232 : decode cX12_property 232 = .ok (.if_icmp .ne 17, 3) := by decide +kernel
theorem dX12_property_235 : decode cX12_property 235 = .ok (.aload_n 0, 1) := by decide +kernel
theorem dX12_property_236 : decode cX12_property 236 = .ok (.getfield 213, 3) := by decide +kernel
theorem dX12_property_239 : decode cX12_property 239 = .ok (.iload 4, 2) := by decide +kernel
theorem dX12_property_241 : decode cX12_property 241 = .ok (.aload_n 0, 1) := by decide +kernel
theorem dX12_property_242 : decode cX12_property 242 = .ok (.invokevirtual 373, 3) := by decide +kernel
theorem dX12_property_245 : decode cX12_property 245 = .ok (.lastore, 1) := by decide +kernel
theorem dX12_property_246 : decode cX12_property 246 = .ok (.goto 81, 3) := by decide +kernel
theorem dX12_property_249 : decode cX12_property 249 = .ok (.iload 4, 2) := by decide +kernel
theorem dX12_property_251 : decode cX12_property 251 = .ok (.bipush 38, 2) := by decide +kernel
theorem dX12_property_253 : decode cX12_property 253 = .ok (.if_icmp .ne 62, 3) := by decide +kernel
theorem dX12_property_256 : decode cX12_property 256 = .ok (.aload_n 0, 1) := by decide +kernel
theorem dX12_property_257 : decode cX12_property 257 = .ok (.invokevirtual 388, 3) := by decide +kernel
theorem dX12_property_260 : decode cX12_property 260 = .ok (.aload_n 0, 1) := by decide +kernel
theorem dX12_property_261 : decode cX12_property 261 = .ok (.invokevirtual 388, 3) := by decide +kernel
theorem dX12_property_264 : decode cX12_property 264 = .ok (.iload_n 3, 1) := by decide +kernel
theorem dX12_property_265 : decode cX12_property 265 = .ok (.istore 5, 2) := by decide +kernel
theorem dX12_property_267 : decode cX12_property 267 = .ok (.iload 5, 2) := by decide +kernel
theorem dX12_property_269 : decode cX12_property 269 = .ok (.aload_n 0, 1) := by decide +kernel
theorem dX12_property_270 : decode cX12_property 270 = .ok (.getfield 274, 3) := by decide +kernel
theorem dX12_property_273 : decode cX12_property 273 = .ok (.if_icmp .ge 39, 3) := by decide +kernel
theorem dX12_property_276 : decode cX12_property 276 = .ok (.aload_n 0, 1) := by decide +kernel
theorem dX12_property_277 : decode cX12_property 277 = .ok (.getfield 283, 3) := by decide +kernel
theorem dX12_property_280 : decode cX12_property 280 = .ok (.ifCond .ne 32, 3) := by decide +kernel
theorem dX12_property_283 : decode cX12_property 283 = .ok (.aload_n 0, 1) := by decide +kernel
theorem dX12_property_284 : decode cX12_property 284 = .ok (.getfield 222, 3) := by decide +kernel
theorem dX12_property_287 : decode cX12_property 287 = .ok (.aload_n 0, 1) := by decide +kernel
theorem dX12_property_288 : decode cX12_property 288 = .ok (.dup, 1) := by decide +kernel
theorem dX12_property_289 : decode cX12_property 289 = .ok (.getfield 370, 3) := by decide +kernel
theorem dX12_property_292 : decode cX12_property 292 = .ok (.dup_x1, 1) := by decide +kernel
theorem dX12_property_293 : decode cX12_property 293 = .ok (.iconst 1, 1) := by decide +kernel
theorem dX12_property_294 : decode cX12_property 294 = .ok (.iadd, 1) := by decide +kernel
theorem dX12_property_295 : decode cX12_property 295 = .ok (.putfield 370, 3) := by decide +kernel
theorem dX12_property_298 : decode cX12_property 298 = .ok (.aload_n 0, 1) := by decide +kernel
theorem dX12_property_299 : decode cX12_property 299 = .ok (.getfield 31, 3) := by decide +kernel
theorem dX12_property_302 : decode cX12_property 302 = .ok (.iload 5, 2) := by decide +kernel
theorem dX12_property_304 : decode cX12_property 304 = .ok (.baload, 1) := by decide +kernel
theorem dX12_property_305 : decode cX12_property 305 = .ok (.bastore, 1) := by decide +kernel
theorem dX12_property_306 : decode cX12_property 306 = .ok (.iinc 5 1, 3) := by decide +kernel
theorem dX12_property_309 : decode cX12_property 309 = .ok (.goto (-42), 3) := by decide +kernel
theorem dX12_property_312 : decode cX12_property 312 = .ok (.goto 15, 3) := by decide +kernel
theorem dX12_property_315 : decode cX12_property 315 = .ok (.aload_n 0, 1) := by decide +kernel
theorem dX12_property_316 : decode cX12_property 316 = .ok (.getfield 213, 3) := by decide +kernel
theorem dX12_property_319 : decode cX12_property 319 = .ok (.iload 4, 2) := by decide +kernel
theorem dX12_property_321 : decode cX12_property 321 = .ok (.aload_n 0, 1) := by decide +kernel
theorem dX12_property_322 : decode cX12_property 322 = .ok (.invokevirtual 350, 3) := by decide +kernel
theorem dX12_property_325 : decode cX12_property 325 = .ok (.i2l, 1) := by decide +kernel
theorem dX12_property_326 : decode cX12_property 326 = .ok (.lastore, 1) := by decide +kernel
theorem dX12_property_327 : decode cX12_property 327 = .ok (.aload_n 0, 1) := by decide +kernel
theorem dX12_property_328 : decode cX12_property 328 = .ok (.getfield 216, 3) := by decide +kernel
theorem dX12_property_331 : decode cX12_property 331 = .ok (.iload 4, 2) := by decide +kernel
theorem dX12_property_333 : decode cX12_property 333 = .ok (.aload_n 0, 1) := by decide +kernel
theorem dX12_property_334 : decode cX12_property 334 = .ok (.getfield 353, 3) := by decide +kernel
theorem dX12_property_337 : decode cX12_property 337 = .ok (.iastore, 1) := by decide +kernel
theorem dX12_property_338 : decode cX12_property 338 = .ok (.aload_n 0, 1) := by decide +kernel
theorem dX12_property_339 : decode cX12_property 339 = .ok (.getfield 219, 3) := by decide +kernel
theorem dX12_property_342 : decode cX12_property 342 = .ok (.iload 4, 2) := by decide +kernel
theorem dX12_property_344 : decode cX12_property 344 = .ok (.aload_n 0, 1) := by decide +kernel
theorem dX12_property_345 : decode cX12_property 345 = .ok (.getfield 356, 3) := by decide +kernel
theorem dX12_property_348 : decode cX12_property 348 = .ok (.iastore, 1) := by decide +kernel
theorem dX12_property_349 : decode cX12_property 349 = .ok (.return_, 1) := by decide +kernel
theorem dX12_isTopic_0 : decode cX12_isTopic 0 = .ok (.iload_n 2, 1) := by decide +kernel
theorem dX12_isTopic_1 : decode cX12_isTopic 1 = .ok (.iconst 1, 1) := by decide +kernel
theorem dX12_isTopic_2 : decode cX12_isTopic 2 = .ok (.if_icmp .lt 13, 3) := by decide +kernel
theorem dX12_isTopic_5 : decode cX12_isTopic 5 = .ok (.iload_n 2, 1) := by decide +kernel
theorem dX12_isTopic_6 : decode cX12_isTopic 6 = .ok (.bipush 64, 2) := by decide +kernel
theorem dX12_isTopic_8 : decode cX12_isTopic 8 = .ok (.if_icmp .gt 7, 3) := by decide +kernel
theorem dX12_isTopic_11 : decode cX12_isTopic 11 = .ok (.iconst 1, 1) := by decide +kernel
theorem dX12_isTopic_12 : decode cX12_isTopic 12 = .ok (.goto 4, 3) := by decide +kernel
theorem dX12_isTopic_15 : decode cX12_isTopic 15 = .ok (.iconst 0, 1) := by decide +kernel
theorem dX12_isTopic_16 : decode cX12_isTopic 16 = .ok (.istore_n 3, 1) := by decide +kernel
theorem dX12_isTopic_17 : decode cX12_isTopic 17 = .ok (.iconst 0, 1) := by decide +kernel
theorem dX12_isTopic_18 : decode cX12_isTopic 18 = .ok (.istore 4, 2) := by decide +kernel
theorem dX12_isTopic_20 : decode cX12_isTopic 20 = .ok (.iload 4, 2) := by decide +kernel
theorem dX12_isTopic_22 : decode cX12_isTopic 22 = .ok (.iload_n 2, 1) := by decide +kernel
theorem dX12_isTopic_23 : decode cX12_isTopic 23 = .ok (.if_icmp .ge 41, 3) := by decide +kernel
theorem dX12_isTopic_26 : decode cX12_isTopic 26 = .ok (.iload_n 3, 1) := by decide +kernel
theorem dX12_isTopic_27 : decode cX12_isTopic 27 = .ok (.ifCond .eq 37, 3) := by decide +kernel
theorem dX12_isTopic_30 : decode cX12_isTopic 30 = .ok (.aload_n 0, 1) := by decide +kernel
theorem dX12_isTopic_31 : decode cX12_isTopic 31 = .ok (.iload_n 1, 1) := by decide +kernel
theorem dX12_isTopic_32 : decode cX12_isTopic 32 = .ok (.iload 4, 2) := by decide +kernel
theorem dX12_isTopic_34 : decode cX12_isTopic 34 = .ok (.iadd, 1) := by decide +kernel
theorem dX12_isTopic_35 : decode cX12_isTopic 35 = .ok (.baload, 1) := by decide +kernel
theorem dX12_isTopic_36 : decode cX12_isTopic 36 = .ok (.bipush 43, 2) := by decide +kernel
theorem dX12_isTopic_38 : decode cX12_isTopic 38 = .ok (.if_icmp .eq 18, 3) := by decide +kernel
theorem dX12_isTopic_41 : decode cX12_isTopic 41 = .ok (.aload_n 0, 1) := by decide +kernel
theorem dX12_isTopic_42 : decode cX12_isTopic 42 = .ok (.iload_n 1, 1) := by decide +kernel
theorem dX12_isTopic_43 : decode cX12_isTopic 43 = .ok (.iload 4, 2) := by decide +kernel
theorem dX12_isTopic_45 : decode cX12_isTopic 45 = .ok (.iadd, 1) := by decide +kernel
theorem dX12_isTopic_46 : decode cX12_isTopic 46 = .ok (.baload, 1) := by decide +kernel
theorem dX12_isTopic_47 : decode cX12_isTopic 47 = .ok (.bipush 35, 2) := by decide +kernel
theorem dX12_isTopic_49 : decode cX12_isTopic 49 = .ok (.if_icmp .eq 7, 3) := by decide +kernel
theorem dX12_isTopic_52 : decode cX12_isTopic 52 = .ok (.iconst 1, 1) := by decide +kernel
theorem dX12_isTopic_53 : decode cX12_isTopic 53 = .ok (.goto 4, 3) := by decide +kernel
theorem dX12_isTopic_56 : decode cX12_isTopic 56 = .ok (.iconst 0, 1) := by decide +kernel
theorem dX12_isTopic_57 : decode cX12_isTopic 57 = .ok (.istore_n 3, 1) := by decide +kernel
theorem dX12_isTopic_58 : decode cX12_isTopic 58 = .ok (.iinc 4 1, 3) := by decide +kernel
theorem dX12_isTopic_61 : decode cX12_isTopic 61 = .ok (.goto (-41), 3) := by decide +kernel
theorem dX12_isTopic_64 : decode cX12_isTopic 64 = .ok (.iload_n 3, 1) := by decide +kernel
theorem dX12_isTopic_65 : decode cX12_isTopic 65 = .ok (.ireturn, 1) := by decide +kernel
theorem dX12_isShare_0 : decode cX12_isShare 0 = .ok (.iload_n 2, 1) := by decide +kernel
theorem dX12_isShare_1 : decode cX12_isShare 1 = .ok (.bipush 7, 2) := by decide +kernel
theorem dX12_isShare_3 : decode cX12_isShare 3 = .ok (.if_icmp .lt 76, 3) := by decide +kernel
theorem dX12_isShare_6 : decode cX12_isShare 6 = .ok (.aload_n 0, 1) := by decide +kernel
theorem dX12_isShare_7 : decode cX12_isShare 7 = .ok (.iload_n 1, 1) := by decide +kernel
theorem dX12_isShare_8 : decode cX12_isShare 8 = .ok (.baload, 1) := by decide +kernel
theorem dX12_isShare_9 : decode cX12_isShare 9 = .ok (.bipush 36, 2) := by decide +kernel
theorem dX12_isShare_11 : decode cX12_isShare 11 = .ok (.if_icmp .ne 68, 3) := by decide +kernel
theorem dX12_isShare_14 : decode cX12_isShare 14 = .ok (.aload_n 0, 1) := by decide +kernel
theorem dX12_isShare_15 : decode cX12_isShare 15 = .ok (.iload_n 1, 1) := by decide +kernel
theorem dX12_isShare_16 : decode cX12_isShare 16 = .ok (.iconst 1, 1) := by decide +kernel
theorem dX12_isShare_17 : decode cX12_isShare 17 = .ok (.iadd, 1) := by decide +kernel
theorem dX12_isShare_18 : decode cX12_isShare 18 = .ok (.baload, 1) := by decide +kernel
theorem dX12_isShare_19 : decode cX12_isShare 19 = .ok (.bipush 115, 2) := by decide +kernel
theorem dX12_isShare_21 : decode cX12_isShare 21 = .ok (.if_icmp .ne 58, 3) := by decide +kernel
theorem dX12_isShare_24 : decode cX12_isShare 24 = .ok (.aload_n 0, 1) := by decide +kernel
theorem dX12_isShare_25 : decode cX12_isShare 25 = .ok (.iload_n 1, 1) := by decide +kernel
theorem dX12_isShare_26 : decode cX12_isShare 26 = .ok (.iconst 2, 1) := by decide +kernel
theorem dX12_isShare_27 : decode cX12_isShare 27 = .ok (.iadd, 1) := by decide +kernel
theorem dX12_isShare_28 : decode cX12_isShare 28 = .ok (.baload, 1) := by decide +kernel
theorem dX12_isShare_29 : decode cX12_isShare 29 = .ok (.bipush 104, 2) := by decide +kernel
theorem dX12_isShare_31 : decode cX12_isShare 31 = .ok (.if_icmp .ne 48, 3) := by decide +kernel
theorem dX12_isShare_34 : decode cX12_isShare 34 = .ok (.aload_n 0, 1) := by decide +kernel
theorem dX12_isShare_35 : decode cX12_isShare 35 = .ok (.iload_n 1, 1) := by decide +kernel
theorem dX12_isShare_36 : decode cX12_isShare 36 = .ok (.iconst 3, 1) := by decide +kernel
theorem dX12_isShare_37 : decode cX12_isShare 37 = .ok (.iadd, 1) := by decide +kernel
theorem dX12_isShare_38 : decode cX12_isShare 38 = .ok (.baload, 1) := by decide +kernel
theorem dX12_isShare_39 : decode cX12_isShare 39 = .ok (.bipush 97, 2) := by decide +kernel
theorem dX12_isShare_41 : decode cX12_isShare 41 = .ok (.if_icmp .ne 38, 3) := by decide +kernel
theorem dX12_isShare_44 : decode cX12_isShare 44 = .ok (.aload_n 0, 1) := by decide +kernel
theorem dX12_isShare_45 : decode cX12_isShare 45 = .ok (.iload_n 1, 1) := by decide +kernel
theorem dX12_isShare_46 : decode cX12_isShare 46 = .ok (.iconst 4, 1) := by decide +kernel
theorem dX12_isShare_47 : decode cX12_isShare 47 = .ok (.iadd, 1) := by decide +kernel
theorem dX12_isShare_48 : decode cX12_isShare 48 = .ok (.baload, 1) := by decide +kernel
theorem dX12_isShare_49 : decode cX12_isShare 49 = .ok (.bipush 114, 2) := by decide +kernel
theorem dX12_isShare_51 : decode cX12_isShare 51 = .ok (.if_icmp .ne 28, 3) := by decide +kernel
theorem dX12_isShare_54 : decode cX12_isShare 54 = .ok (.aload_n 0, 1) := by decide +kernel
theorem dX12_isShare_55 : decode cX12_isShare 55 = .ok (.iload_n 1, 1) := by decide +kernel
theorem dX12_isShare_56 : decode cX12_isShare 56 = .ok (.iconst 5, 1) := by decide +kernel
theorem dX12_isShare_57 : decode cX12_isShare 57 = .ok (.iadd, 1) := by decide +kernel
theorem dX12_isShare_58 : decode cX12_isShare 58 = .ok (.baload, 1) := by decide +kernel
theorem dX12_isShare_59 : decode cX12_isShare 59 = .ok (.bipush 101, 2) := by decide +kernel
theorem dX12_isShare_61 : decode cX12_isShare 61 = .ok (.if_icmp .ne 18, 3) := by decide +kernel
theorem dX12_isShare_64 : decode cX12_isShare 64 = .ok (.aload_n 0, 1) := by decide +kernel
theorem dX12_isShare_65 : decode cX12_isShare 65 = .ok (.iload_n 1, 1) := by decide +kernel
theorem dX12_isShare_66 : decode cX12_isShare 66 = .ok (.bipush 6, 2) := by decide +kernel
theorem dX12_isShare_68 : decode cX12_isShare 68 = .ok (.iadd, 1) := by decide +kernel
theorem dX12_isShare_69 : decode cX12_isShare 69 = .ok (.baload, 1) := by decide +kernel
theorem dX12_isShare_70 : decode cX12_isShare 70 = .ok (.bipush 47, 2) := by decide +kernel
theorem dX12_isShare_72 : decode cX12_isShare 72 = .ok (.if_icmp .ne 7, 3) := by decide +kernel
theorem dX12_isShare_75 : decode cX12_isShare 75 = .ok (.iconst 1, 1) := by decide +kernel
theorem dX12_isShare_76 : decode cX12_isShare 76 = .ok (.goto 4, 3) := by decide +kernel
theorem dX12_isShare_79 : decode cX12_isShare 79 = .ok (.iconst 0, 1) := by decide +kernel
theorem dX12_isShare_80 : decode cX12_isShare 80 = .ok (.ireturn, 1) := by decide +kernel
theorem dX12_isFilter_0 : decode cX12_isFilter 0 = .ok (.iload_n 2, 1) := by decide +kernel
theorem dX12_isFilter_1 : decode cX12_isFilter 1 = .ok (.iconst 1, 1) := by decide +kernel
theorem dX12_isFilter_2 : decode cX12_isFilter 2 = .ok (.if_icmp .lt 18, 3) := by decide +kernel
theorem dX12_isFilter_5 : decode cX12_isFilter 5 = .ok (.iload_n 2, 1) := by decide +kernel
theorem dX12_isFilter_6 : decode cX12_isFilter 6 = .ok (.bipush 64, 2) := by decide +kernel
theorem dX12_isFilter_8 : decode cX12_isFilter 8 = .ok (.if_icmp .gt 12, 3) := by decide +kernel
theorem dX12_isFilter_11 : decode cX12_isFilter 11 = .ok (.aload_n 0, 1) := by decide +kernel
theorem dX12_isFilter_12 : decode cX12_isFilter 12 = .ok (.iload_n 1, 1) := by decide +kernel
theorem dX12_isFilter_13 : decode cX12_isFilter 13 = .ok (.iload_n 2, 1) := by decide +kernel
theorem dX12_isFilter_14 : decode cX12_isFilter 14 = .ok (.invokestatic 391, 3) := by decide +kernel
theorem dX12_isFilter_17 : decode cX12_isFilter 17 = .ok (.ifCond .eq 5, 3) := by decide +kernel
theorem dX12_isFilter_20 : decode cX12_isFilter 20 = .ok (.iconst 0, 1) := by decide +kernel
theorem dX12_isFilter_21 : decode cX12_isFilter 21 = .ok (.ireturn, 1) := by decide +kernel
theorem dX12_isFilter_22 : decode cX12_isFilter 22 = .ok (.iconst 0, 1) := by decide +kernel
theorem dX12_isFilter_23 : decode cX12_isFilter 23 = .ok (.istore_n 3, 1) := by decide +kernel
theorem dX12_isFilter_24 : decode cX12_isFilter 24 = .ok (.iload_n 3, 1) := by decide +kernel
theorem dX12_isFilter_25 : decode cX12_isFilter 25 = .ok (.iload_n 2, 1) := by decide +kernel
theorem dX12_isFilter_26 : decode cX12_isFilter 26 = .ok (.if_icmp .ge 103, 3) := by decide +kernel
theorem dX12_isFilter_29 : decode cX12_isFilter 29 = .ok (.aload_n 0, 1) := by decide +kernel
theorem dX12_isFilter_30 : decode cX12_isFilter 30 = .ok (.iload_n 1, 1) := by decide +kernel
theorem dX12_isFilter_31 : decode cX12_isFilter 31 = .ok (.iload_n 3, 1) := by decide +kernel
theorem dX12_isFilter_32 : decode cX12_isFilter 32 = .ok (.iadd, 1) := by decide +kernel
theorem dX12_isFilter_33 : decode cX12_isFilter 33 = .ok (.baload, 1) := by decide +kernel
theorem dX12_isFilter_34 : decode cX12_isFilter 34 = .ok (.istore 4, 2) := by decide +kernel
theorem dX12_isFilter_36 : decode cX12_isFilter 36 = .ok (.iload_n 3, 1) := by decide +kernel
theorem dX12_isFilter_37 : decode cX12_isFilter 37 = .ok (.ifCond .eq 15, 3) := by decide +kernel
theorem dX12_isFilter_40 : decode cX12_isFilter 40 = .ok (.aload_n 0, 1) := by decide +kernel
theorem dX12_isFilter_41 : decode cX12_isFilter 41 = .ok (.iload_n 1, 1) := by decide +kernel
theorem dX12_isFilter_42 : decode cX12_isFilter 42 = .ok (.iload_n 3, 1) := by decide +kernel
theorem dX12_isFilter_43 : decode cX12_isFilter 43 = .ok (.iadd, 1) := by decide +kernel
theorem dX12_isFilter_44 : decode cX12_isFilter 44 = .ok (.iconst 1, 1) := by decide +kernel
theorem dX12_isFilter_45 : decode cX12_isFilter 45 = .ok (.isub, 1) := by decide +kernel
theorem dX12_isFilter_46 : decode cX12_isFilter 46 = .ok (.baload, 1) := by decide +kernel
theorem dX12_isFilter_47 : decode cX12_isFilter 47 = .ok (.bipush 47, 2) := by decide +kernel
theorem dX12_isFilter_49 : decode cX12_isFilter 49 = .ok (.if_icmp .ne 7, 3) := by decide +kernel
theorem dX12_isFilter_52 : decode cX12_isFilter 52 = .ok (.iconst 1, 1) := by decide +kernel
theorem dX12_isFilter_53 : decode cX12_isFilter 53 = .ok (.goto 4, 3) := by decide +kernel
theorem dX12_isFilter_56 : decode cX12_isFilter 56 = .ok (.iconst 0, 1) := by decide +kernel
theorem dX12_isFilter_57 : decode cX12_isFilter 57 = .ok (.istore 5, 2) := by decide +kernel
theorem dX12_isFilter_59 : decode cX12_isFilter 59 = .ok (.iload_n 3, 1) := by decide +kernel
theorem dX12_isFilter_60 : decode cX12_isFilter 60 = .ok (.iload_n 2, 1) := by decide +kernel
theorem dX12_isFilter_61 : decode cX12_isFilter 61 = .ok (.iconst 1, 1) := by decide +kernel
theorem dX12_isFilter_62 : decode cX12_isFilter 62 = .ok (.isub, 1) := by decide +kernel
theorem dX12_isFilter_63 : decode cX12_isFilter 63 = .ok (.if_icmp .eq 15, 3) := by decide +kernel
theorem dX12_isFilter_66 : decode cX12_isFilter 66 = .ok (.aload_n 0, 1) := by decide +kernel
theorem dX12_isFilter_67 : decode cX12_isFilter 67 = .ok (.iload_n 1, 1) := by decide +kernel
theorem dX12_isFilter_68 : decode cX12_isFilter 68 = .ok (.iload_n 3, 1) := by decide +kernel
theorem dX12_isFilter_69 : decode cX12_isFilter 69 = .ok (.iadd, 1) := by decide +kernel
theorem dX12_isFilter_70 : decode cX12_isFilter 70 = .ok (.iconst 1, 1) := by decide +kernel
theorem dX12_isFilter_71 : decode cX12_isFilter 71 = .ok (.iadd, 1) := by decide +kernel
theorem dX12_isFilter_72 : decode cX12_isFilter 72 = .ok (.baload, 1) := by decide +kernel
theorem dX12_isFilter_73 : decode cX12_isFilter 73 = .ok (.bipush 47, 2) := by decide +kernel
theorem dX12_isFilter_75 : decode cX12_isFilter 75 = .ok (.if_icmp .ne 7, 3) := by decide +kernel
theorem dX12_isFilter_78 : decode cX12_isFilter 78 = .ok (.iconst 1, 1) := by decide +kernel
theorem dX12_isFilter_79 : decode cX12_isFilter 79 = .ok (.goto 4, 3) := by decide +kernel
theorem dX12_isFilter_82 : decode cX12_isFilter 82 = .ok (.iconst 0, 1) := by decide +kernel
theorem dX12_isFilter_83 : decode cX12_isFilter 83 = .ok (.istore 6, 2) := by decide +kernel
theorem dX12_isFilter_85 : decode cX12_isFilter 85 = .ok (.iload 4, 2) := by decide +kernel
theorem dX12_isFilter_87 : decode cX12_isFilter 87 = .ok (.bipush 43, 2) := by decide +kernel
theorem dX12_isFilter_89 : decode cX12_isFilter 89 = .ok (.if_icmp .ne 13, 3) := by decide +kernel
theorem dX12_isFilter_92 : decode cX12_isFilter 92 = .ok (.iload 5, 2) := by decide +kernel
theorem dX12_isFilter_94 : decode cX12_isFilter 94 = .ok (.ifCond .eq 27, 3) := by decide +kernel
theorem dX12_isFilter_97 : decode cX12_isFilter 97 = .ok (.iload 6, 2) := by decide +kernel
theorem dX12_isFilter_99 : decode cX12_isFilter 99 = .ok (.ifCond .eq 22, 3) := by decide +kernel
theorem dX12_isFilter_102 : decode cX12_isFilter 102 = .ok (.iload 4, 2) := by decide +kernel
theorem dX12_isFilter_104 : decode cX12_isFilter 104 = .ok (.bipush 35, 2) := by decide +kernel
theorem dX12_isFilter_106 : decode cX12_isFilter 106 = .ok (.if_icmp .ne 17, 3) := by decide +kernel
theorem dX12_isFilter_109 : decode cX12_isFilter 109 = .ok (.iload 5, 2) := by decide +kernel
theorem dX12_isFilter_111 : decode cX12_isFilter 111 = .ok (.ifCond .eq 10, 3) := by decide +kernel
theorem dX12_isFilter_114 : decode cX12_isFilter 114 = .ok (.iload_n 3, 1) := by decide +kernel
theorem dX12_isFilter_115 : decode cX12_isFilter 115 = .ok (.iload_n 2, 1) := by decide +kernel
theorem dX12_isFilter_116 : decode cX12_isFilter 116 = .ok (.iconst 1, 1) := by decide +kernel
theorem dX12_isFilter_117 : decode cX12_isFilter 117 = .ok (.isub, 1) := by decide +kernel
theorem dX12_isFilter_118 : decode cX12_isFilter 118 = .ok (.if_icmp .eq 5, 3) := by decide +kernel
theorem dX12_isFilter_121 : decode cX12_isFilter 121 = .ok (.iconst 0, 1) := by decide +kernel
theorem dX12_isFilter_122 : decode cX12_isFilter 122 = .ok (.ireturn, 1) := by decide +kernel
theorem dX12_isFilter_123 : decode cX12_isFilter 123 = .ok (.iinc 3 1, 3) := by decide +kernel
theorem dX12_isFilter_126 : decode cX12_isFilter 126 = .ok (.goto (-102), 3) := by decide +kernel
theorem dX12_isFilter_129 : decode cX12_isFilter 129 = .ok (.iconst 1, 1) := by decide +kernel
theorem dX12_isFilter_130 : decode cX12_isFilter 130 = .ok (.ireturn, 1) := by decide +kernel
theorem dX12_shareAt_0 : decode cX12_shareAt 0 = .ok (.aload_n 0, 1) := by decide +kernel
theorem dX12_shareAt_1 : decode cX12_shareAt 1 = .ok (.iload_n 1, 1) := by decide +kernel
theorem dX12_shareAt_2 : decode cX12_shareAt 2 = .ok (.iload_n 2, 1) := by decide +kernel
theorem dX12_shareAt_3 : decode cX12_shareAt 3 = .ok (.invokestatic 391, 3) := by decide +kernel
theorem dX12_shareAt_6 : decode cX12_shareAt 6 = .ok (.ifCond .eq 9, 3) := by decide +kernel
theorem dX12_shareAt_9 : decode cX12_shareAt 9 = .ok (.iload_n 2, 1) := by decide +kernel
theorem dX12_shareAt_10 : decode cX12_shareAt 10 = .ok (.bipush 64, 2) := by decide +kernel
theorem dX12_shareAt_12 : decode cX12_shareAt 12 = .ok (.if_icmp .le 5, 3) := by decide +kernel
theorem dX12_shareAt_15 : decode cX12_shareAt 15 = .ok (.iconst 0, 1) := by decide +kernel
theorem dX12_shareAt_16 : decode cX12_shareAt 16 = .ok (.ireturn, 1) := by decide +kernel
theorem dX12_shareAt_17 : decode cX12_shareAt 17 = .ok (.bipush 7, 2) := by decide +kernel
theorem dX12_shareAt_19 : decode cX12_shareAt 19 = .ok (.istore_n 3, 1) := by decide +kernel
theorem dX12_shareAt_20 : decode cX12_shareAt 20 = .ok (.iload_n 3, 1) := by decide +kernel
theorem dX12_shareAt_21 : decode cX12_shareAt 21 = .ok (.iload_n 2, 1) := by decide +kernel
theorem dX12_shareAt_22 : decode cX12_shareAt 22 = .ok (.if_icmp .ge 41, 3) := by decide +kernel
theorem dX12_shareAt_25 : decode cX12_shareAt 25 = .ok (.aload_n 0, 1) := by decide +kernel
theorem dX12_shareAt_26 : decode cX12_shareAt 26 = .ok (.iload_n 1, 1) := by decide +kernel
theorem dX12_shareAt_27 : decode cX12_shareAt 27 = .ok (.iload_n 3, 1) := by decide +kernel
theorem dX12_shareAt_28 : decode cX12_shareAt 28 = .ok (.iadd, 1) := by decide +kernel
theorem dX12_shareAt_29 : decode cX12_shareAt 29 = .ok (.baload, 1) := by decide +kernel
theorem dX12_shareAt_30 : decode cX12_shareAt 30 = .ok (.bipush 47, 2) := by decide +kernel
theorem dX12_shareAt_32 : decode cX12_shareAt 32 = .ok (.if_icmp .eq 31, 3) := by decide +kernel
theorem dX12_shareAt_35 : decode cX12_shareAt 35 = .ok (.aload_n 0, 1) := by decide +kernel
theorem dX12_shareAt_36 : decode cX12_shareAt 36 = .ok (.iload_n 1, 1) := by decide +kernel
theorem dX12_shareAt_37 : decode cX12_shareAt 37 = .ok (.iload_n 3, 1) := by decide +kernel
theorem dX12_shareAt_38 : decode cX12_shareAt 38 = .ok (.iadd, 1) := by decide +kernel
theorem dX12_shareAt_39 : decode cX12_shareAt 39 = .ok (.baload, 1) := by decide +kernel
theorem dX12_shareAt_40 : decode cX12_shareAt 40 = .ok (.bipush 43, 2) := by decide +kernel
theorem dX12_shareAt_42 : decode cX12_shareAt 42 = .ok (.if_icmp .eq 13, 3) := by decide +kernel
theorem dX12_shareAt_45 : decode cX12_shareAt 45 = .ok (.aload_n 0, 1) := by decide +kernel
theorem dX12_shareAt_46 : decode cX12_shareAt 46 = .ok (.iload_n 1, 1) := by decide +kernel
theorem dX12_shareAt_47 : decode cX12_shareAt 47 = .ok (.iload_n 3, 1) := by decide +kernel
theorem dX12_shareAt_48 : decode cX12_shareAt 48 = .ok (.iadd, 1) := by decide +kernel
theorem dX12_shareAt_49 : decode cX12_shareAt 49 = .ok (.baload, 1) := by decide +kernel
theorem dX12_shareAt_50 : decode cX12_shareAt 50 = .ok (.bipush 35, 2) := by decide +kernel
theorem dX12_shareAt_52 : decode cX12_shareAt 52 = .ok (.if_icmp .ne 5, 3) := by decide +kernel
theorem dX12_shareAt_55 : decode cX12_shareAt 55 = .ok (.iconst 0, 1) := by decide +kernel
theorem dX12_shareAt_56 : decode cX12_shareAt 56 = .ok (.ireturn, 1) := by decide +kernel
theorem dX12_shareAt_57 : decode cX12_shareAt 57 = .ok (.iinc 3 1, 3) := by decide +kernel
theorem dX12_shareAt_60 : decode cX12_shareAt 60 = .ok (.goto (-40), 3) := by decide +kernel
theorem dX12_shareAt_63 : decode cX12_shareAt 63 = .ok (.iload_n 3, 1) := by decide +kernel
theorem dX12_shareAt_64 : decode cX12_shareAt 64 = .ok (.bipush 7, 2) := by decide +kernel
theorem dX12_shareAt_66 : decode cX12_shareAt 66 = .ok (.if_icmp .le 31, 3) := by decide +kernel
theorem dX12_shareAt_69 : decode cX12_shareAt 69 = .ok (.iload_n 3, 1) := by decide +kernel
theorem dX12_shareAt_70 : decode cX12_shareAt 70 = .ok (.iload_n 2, 1) := by decide +kernel
theorem dX12_shareAt_71 : decode cX12_shareAt 71 = .ok (.if_icmp .ge 26, 3) := by decide +kernel
theorem dX12_shareAt_74 : decode cX12_shareAt 74 = .ok (.aload_n 0, 1) := by decide +kernel
theorem dX12_shareAt_75 : decode cX12_shareAt 75 = .ok (.iload_n 1, 1) := by decide +kernel
theorem dX12_shareAt_76 : decode cX12_shareAt 76 = .ok (.iload_n 3, 1) := by decide +kernel
theorem dX12_shareAt_77 : decode cX12_shareAt 77 = .ok (.iadd, 1) := by decide +kernel
theorem dX12_shareAt_78 : decode cX12_shareAt 78 = .ok (.iconst 1, 1) := by decide +kernel
theorem dX12_shareAt_79 : decode cX12_shareAt 79 = .ok (.iadd, 1) := by decide +kernel
theorem dX12_shareAt_80 : decode cX12_shareAt 80 = .ok (.iload_n 2, 1) := by decide +kernel
theorem dX12_shareAt_81 : decode cX12_shareAt 81 = .ok (.iload_n 3, 1) := by decide +kernel
theorem dX12_shareAt_82 : decode cX12_shareAt 82 = .ok (.isub, 1) := by decide +kernel
theorem dX12_shareAt_83 : decode cX12_shareAt 83 = .ok (.iconst 1, 1) := by decide +kernel
theorem dX12_shareAt_84 : decode cX12_shareAt 84 = .ok (.isub, 1) := by decide +kernel
theorem dX12_shareAt_85 : decode cX12_shareAt 85 = .ok (.invokestatic 395, 3) := by decide +kernel
theorem dX12_shareAt_88 : decode cX12_shareAt 88 = .ok (.ifCond .eq 9, 3) := by decide +kernel
theorem dX12_shareAt_91 : decode cX12_shareAt 91 = .ok (.iload_n 3, 1) := by decide +kernel
theorem dX12_shareAt_92 : decode cX12_shareAt 92 = .ok (.iconst 1, 1) := by decide +kernel
theorem dX12_shareAt_93 : decode cX12_shareAt 93 = .ok (.iadd, 1) := by decide +kernel
theorem dX12_shareAt_94 : decode cX12_shareAt 94 = .ok (.goto 4, 3) := by decide +kernel
theorem dX12_shareAt_97 : decode cX12_shareAt 97 = .ok (.iconst 0, 1) := by decide +kernel
theorem dX12_shareAt_98 : decode cX12_shareAt 98 = .ok (.ireturn, 1) := by decide +kernel
theorem dX12_matches_0 : decode cX12_matches 0 = .ok (.sipush 480, 3) := by decide +kernel
theorem dX12_matches_3 : decode cX12_matches 3 = .ok (.iload_n 3, 1) := by decide +kernel
theorem dX12_matches_4 : decode cX12_matches 4 = .ok (.imul, 1) := by decide +kernel
theorem dX12_matches_5 : decode cX12_matches 5 = .ok (.istore 4, 2) := by decide +kernel
theorem dX12_matches_7 : decode cX12_matches 7 = .ok (.aload_n 0, 1) := by decide +kernel
theorem dX12_matches_8 : decode cX12_matches 8 = .ok (.getfield 153, 3) := by decide +kernel
theorem dX12_matches_11 : decode cX12_matches 11 = .ok (.iload_n 3, 1) := by decide +kernel
theorem dX12_matches_12 : decode cX12_matches 12 = .ok (.iaload, 1) := by decide +kernel
theorem dX12_matches_13 : decode cX12_matches 13 = .ok (.istore 5, 2) := by decide +kernel
theorem dX12_matches_15 : decode cX12_matches 15 = .ok (.aload_n 0, 1) := by decide +kernel
theorem dX12_matches_16 : decode cX12_matches 16 = .ok (.getfield 150, 3) := by decide +kernel
theorem dX12_matches_19 : decode cX12_matches 19 = .ok (.iload 4, 2) := by decide +kernel
theorem dX12_matches_21 : decode cX12_matches 21 = .ok (.baload, 1) := by decide +kernel
theorem dX12_matches_22 : decode cX12_matches 22 = .ok (.bipush 36, 2) := by decide +kernel
theorem dX12_matches_24 : decode cX12_matches 24 = .ok (.if_icmp .ne 27, 3) := by decide +kernel
theorem dX12_matches_27 : decode cX12_matches 27 = .ok (.aload_n 0, 1) := by decide +kernel
theorem dX12_matches_28 : decode cX12_matches 28 = .ok (.getfield 92, 3) := by decide +kernel
theorem dX12_matches_31 : decode cX12_matches 31 = .ok (.iload_n 1, 1) := by decide +kernel
theorem dX12_matches_32 : decode cX12_matches 32 = .ok (.baload, 1) := by decide +kernel
theorem dX12_matches_33 : decode cX12_matches 33 = .ok (.bipush 43, 2) := by decide +kernel
theorem dX12_matches_35 : decode cX12_matches 35 = .ok (.if_icmp .eq 14, 3) := by decide +kernel
theorem dX12_matches_38 : decode cX12_matches 38 = .ok (.aload_n 0, 1) := by decide +kernel
theorem dX12_matches_39 : decode cX12_matches 39 = .ok (.getfield 92, 3) := by decide +kernel
theorem dX12_matches_42 : decode cX12_matches 42 = .ok (.iload_n 1, 1) := by decide +kernel
theorem dX12_matches_43 : decode cX12_matches 43 = .ok (.baload, 1) := by decide +kernel
theorem dX12_matches_44 : decode cX12_matches 44 = .ok (.bipush 35, 2) := by decide +kernel
theorem dX12_matches_46 : decode cX12_matches 46 = .ok (.if_icmp .ne 5, 3) := by decide +kernel
theorem dX12_matches_49 : decode cX12_matches 49 = .ok (.iconst 0, 1) := by decide +kernel
theorem dX12_matches_50 : decode cX12_matches 50 = .ok (.ireturn, 1) := by decide +kernel
theorem dX12_matches_51 : decode cX12_matches 51 = .ok (.iconst 0, 1) := by decide +kernel
theorem dX12_matches_52 : decode cX12_matches 52 = .ok (.istore 6, 2) := by decide +kernel
theorem dX12_matches_54 : decode cX12_matches 54 = .ok (.iconst 0, 1) := by decide +kernel
theorem dX12_matches_55 : decode cX12_matches 55 = .ok (.istore 7, 2) := by decide +kernel
theorem dX12_matches_57 : decode cX12_matches 57 = .ok (.aload_n 0, 1) := by decide +kernel
theorem dX12_matches_58 : decode cX12_matches 58 = .ok (.getfield 92, 3) := by decide +kernel
theorem dX12_matches_61 : decode cX12_matches 61 = .ok (.iload_n 1, 1) := by decide +kernel
theorem dX12_matches_62 : decode cX12_matches 62 = .ok (.iload 6, 2) := by decide +kernel
theorem dX12_matches_64 : decode cX12_matches 64 = .ok (.iadd, 1) := by decide +kernel
theorem dX12_matches_65 : decode cX12_matches 65 = .ok (.baload, 1) := by decide +kernel
theorem dX12_matches_66 : decode cX12_matches 66 = .ok (.bipush 35, 2) := by decide +kernel
theorem dX12_matches_68 : decode cX12_matches 68 = .ok (.if_icmp .ne 34, 3) := by decide +kernel
theorem dX12_matches_71 : decode cX12_matches 71 = .ok (.iload 6, 2) := by decide +kernel
theorem dX12_matches_73 : decode cX12_matches 73 = .ok (.iload_n 2, 1) := by decide +kernel
theorem dX12_matches_74 : decode cX12_matches 74 = .ok (.iconst 1, 1) := by decide +kernel
theorem dX12_matches_75 : decode cX12_matches 75 = .ok (.isub, 1) := by decide +kernel
theorem dX12_matches_76 : decode cX12_matches 76 = .ok (.if_icmp .ne 26, 3) := by decide +kernel
theorem dX12_matches_79 : decode cX12_matches 79 = .ok (.iload 6, 2) := by decide +kernel
theorem dX12_matches_81 : decode cX12_matches 81 = .ok (.ifCond .eq 19, 3) := by decide +kernel
theorem dX12_matches_84 : decode cX12_matches 84 = .ok (.aload_n 0, 1) := by decide +kernel
theorem dX12_matches_85 : decode cX12_matches 85 = .ok (.getfield 92, 3) := by decide +kernel
theorem dX12_matches_88 : decode cX12_matches 88 = .ok (.iload_n 1, 1) := by decide +kernel
theorem dX12_matches_89 : decode cX12_matches 89 = .ok (.iload 6, 2) := by decide +kernel
theorem dX12_matches_91 : decode cX12_matches 91 = .ok (.iadd, 1) := by decide +kernel
theorem dX12_matches_92 : decode cX12_matches 92 = .ok (.iconst 1, 1) := by decide +kernel
theorem dX12_matches_93 : decode cX12_matches 93 = .ok (.isub, 1) := by decide +kernel
theorem dX12_matches_94 : decode cX12_matches 94 = .ok (.baload, 1) := by decide +kernel
theorem dX12_matches_95 : decode cX12_matches 95 = .ok (.bipush 47, 2) := by decide +kernel
theorem dX12_matches_97 : decode cX12_matches 97 = .ok (.if_icmp .ne 5, 3) := by decide +kernel
theorem dX12_matches_100 : decode cX12_matches 100 = .ok (.iconst 1, 1) := by decide +kernel
theorem dX12_matches_101 : decode cX12_matches 101 = .ok (.ireturn, 1) := by decide +kernel
theorem dX12_matches_102 : decode cX12_matches 102 = .ok (.iload 6, 2) := by decide +kernel
theorem dX12_matches_104 : decode cX12_matches 104 = .ok (.iload_n 2, 1) := by decide +kernel
theorem dX12_matches_105 : decode cX12_matches 105 = .ok (.if_icmp .ge 48, 3) := by decide +kernel
theorem dX12_matches_108 : decode cX12_matches 108 = .ok (.aload_n 0, 1) := by decide +kernel
theorem dX12_matches_109 : decode cX12_matches 109 = .ok (.getfield 92, 3) := by decide +kernel
theorem dX12_matches_112 : decode cX12_matches 112 = .ok (.iload_n 1, 1) := by decide +kernel
theorem dX12_matches_113 : decode cX12_matches 113 = .ok (.iload 6, 2) := by decide +kernel
theorem dX12_matches_115 : decode cX12_matches 115 = .ok (.iadd, 1) := by decide +kernel
theorem dX12_matches_116 : decode cX12_matches 116 = .ok (.baload, 1) := by decide +kernel
theorem dX12_matches_117 : decode cX12_matches 117 = .ok (.bipush 43, 2) := by decide +kernel
theorem dX12_matches_119 : decode cX12_matches 119 = .ok (.if_icmp .ne 34, 3) := by decide +kernel
theorem dX12_matches_122 : decode cX12_matches 122 = .ok (.iinc 6 1, 3) := by decide +kernel
theorem dX12_matches_125 : decode cX12_matches 125 = .ok (.iload 7, 2) := by decide +kernel
theorem dX12_matches_127 : decode cX12_matches 127 = .ok (.iload 5, 2) := by decide +kernel
theorem dX12_matches_129 : decode cX12_matches 129 = .ok (.if_icmp .ge 82, 3) := by decide +kernel
theorem dX12_matches_132 : decode cX12_matches 132 = .ok (.aload_n 0, 1) := by decide +kernel
theorem dX12_matches_133 : decode cX12_matches 133 = .ok (.getfield 150, 3) := by decide +kernel
theorem dX12_matches_136 : decode cX12_matches 136 = .ok (.iload 4, 2) := by decide +kernel
theorem dX12_matches_138 : decode cX12_matches 138 = .ok (.iload 7, 2) := by decide +kernel
theorem dX12_matches_140 : decode cX12_matches 140 = .ok (.iadd, 1) := by decide +kernel
theorem dX12_matches_141 : decode cX12_matches 141 = .ok (.baload, 1) := by decide +kernel
theorem dX12_matches_142 : decode cX12_matches 142 = .ok (.bipush 47, 2) := by decide +kernel
theorem dX12_matches_144 : decode cX12_matches 144 = .ok (.if_icmp .eq 67, 3) := by decide +kernel
theorem dX12_matches_147 : decode cX12_matches 147 = .ok (.iinc 7 1, 3) := by decide +kernel
theorem dX12_matches_150 : decode cX12_matches 150 = .ok (.goto (-25), 3) := by decide +kernel
theorem dX12_matches_153 : decode cX12_matches 153 = .ok (.iload 6, 2) := by decide +kernel
theorem dX12_matches_155 : decode cX12_matches 155 = .ok (.iload_n 2, 1) := by decide +kernel
theorem dX12_matches_156 : decode cX12_matches 156 = .ok (.if_icmp .ge 55, 3) := by decide +kernel
theorem dX12_matches_159 : decode cX12_matches 159 = .ok (.aload_n 0, 1) := by decide +kernel
theorem dX12_matches_160 : decode cX12_matches 160 = .ok (.getfield 92, 3) := by decide +kernel
theorem dX12_matches_163 : decode cX12_matches 163 = .ok (.iload_n 1, 1) := by decide +kernel
theorem dX12_matches_164 : decode cX12_matches 164 = .ok (.iload 6, 2) := by decide +kernel
theorem dX12_matches_166 : decode cX12_matches 166 = .ok (.iadd, 1) := by decide +kernel
theorem dX12_matches_167 : decode cX12_matches 167 = .ok (.baload, 1) := by decide +kernel
theorem dX12_matches_168 : decode cX12_matches 168 = .ok (.bipush 47, 2) := by decide +kernel
theorem dX12_matches_170 : decode cX12_matches 170 = .ok (.if_icmp .eq 41, 3) := by decide +kernel
theorem dX12_matches_173 : decode cX12_matches 173 = .ok (.iload 7, 2) := by decide +kernel
theorem dX12_matches_175 : decode cX12_matches 175 = .ok (.iload 5, 2) := by decide +kernel
theorem dX12_matches_177 : decode cX12_matches 177 = .ok (.if_icmp .ge 34, 3) := by decide +kernel
theorem dX12_matches_180 : decode cX12_matches 180 = .ok (.aload_n 0, 1) := by decide +kernel
theorem dX12_matches_181 : decode cX12_matches 181 = .ok (.getfield 150, 3) := by decide +kernel
theorem dX12_matches_184 : decode cX12_matches 184 = .ok (.iload 4, 2) := by decide +kernel
theorem dX12_matches_186 : decode cX12_matches 186 = .ok (.iload 7, 2) := by decide +kernel
theorem dX12_matches_188 : decode cX12_matches 188 = .ok (.iadd, 1) := by decide +kernel
theorem dX12_matches_189 : decode cX12_matches 189 = .ok (.baload, 1) := by decide +kernel
theorem dX12_matches_190 : decode cX12_matches 190 = .ok (.aload_n 0, 1) := by decide +kernel
theorem dX12_matches_191 : decode cX12_matches 191 = .ok (.getfield 92, 3) := by decide +kernel
theorem dX12_matches_194 : decode cX12_matches 194 = .ok (.iload_n 1, 1) := by decide +kernel
theorem dX12_matches_195 : decode cX12_matches 195 = .ok (.iload 6, 2) := by decide +kernel
theorem dX12_matches_197 : decode cX12_matches 197 = .ok (.iadd, 1) := by decide +kernel
theorem dX12_matches_198 : decode cX12_matches 198 = .ok (.baload, 1) := by decide +kernel
theorem dX12_matches_199 : decode cX12_matches 199 = .ok (.if_icmp .ne 12, 3) := by decide +kernel
theorem dX12_matches_202 : decode cX12_matches 202 = .ok (.iinc 6 1, 3) := by decide +kernel
theorem dX12_matches_205 : decode cX12_matches 205 = .ok (.iinc 7 1, 3) := by decide +kernel
theorem dX12_matches_208 : decode cX12_matches 208 = .ok (.goto (-55), 3) := by decide +kernel
theorem dX12_matches_211 : decode cX12_matches 211 = .ok (.iload 6, 2) := by decide +kernel
theorem dX12_matches_213 : decode cX12_matches 213 = .ok (.iload_n 2, 1) := by decide +kernel
theorem dX12_matches_214 : decode cX12_matches 214 = .ok (.if_icmp .eq 17, 3) := by decide +kernel
theorem dX12_matches_217 : decode cX12_matches 217 = .ok (.aload_n 0, 1) := by decide +kernel
theorem dX12_matches_218 : decode cX12_matches 218 = .ok (.getfield 92, 3) := by decide +kernel
theorem dX12_matches_221 : decode cX12_matches 221 = .ok (.iload_n 1, 1) := by decide +kernel
theorem dX12_matches_222 : decode cX12_matches 222 = .ok (.iload 6, 2) := by decide +kernel
theorem dX12_matches_224 : decode cX12_matches 224 = .ok (.iadd, 1) := by decide +kernel
theorem dX12_matches_225 : decode cX12_matches 225 = .ok (.baload, 1) := by decide +kernel
theorem dX12_matches_226 : decode cX12_matches 226 = .ok (.bipush 47, 2) := by decide +kernel
theorem dX12_matches_228 : decode cX12_matches 228 = .ok (.if_icmp .ne 7, 3) := by decide +kernel
theorem dX12_matches_231 : decode cX12_matches 231 = .ok (.iconst 1, 1) := by decide +kernel
theorem dX12_matches_232 : decode cX12_matches 232 = .ok (.goto 4, 3) := by decide +kernel
theorem dX12_matches_235 : decode cX12_matches 235 = .ok (.iconst 0, 1) := by decide +kernel
theorem dX12_matches_236 : decode cX12_matches 236 = .ok (.istore 8, 2) := by decide +kernel
theorem dX12_matches_238 : decode cX12_matches 238 = .ok (.iload 7, 2) := by decide +kernel
theorem dX12_matches_240 : decode cX12_matches 240 = .ok (.iload 5, 2) := by decide +kernel
theorem dX12_matches_242 : decode cX12_matches 242 = .ok (.if_icmp .eq 18, 3) := by decide +kernel
theorem dX12_matches_245 : decode cX12_matches 245 = .ok (.aload_n 0, 1) := by decide +kernel
theorem dX12_matches_246 : decode cX12_matches 246 = .ok (.getfield 150, 3) := by decide +kernel
theorem dX12_matches_249 : decode cX12_matches 249 = .ok (.iload 4, 2) := by decide +kernel
theorem dX12_matches_251 : decode cX12_matches 251 = .ok (.iload 7, 2) := by decide +kernel
theorem dX12_matches_253 : decode cX12_matches 253 = .ok (.iadd, 1) := by decide +kernel
theorem dX12_matches_254 : decode cX12_matches 254 = .ok (.baload, 1) := by decide +kernel
theorem dX12_matches_255 : decode cX12_matches 255 = .ok (.bipush 47, 2) := by decide +kernel
theorem dX12_matches_257 : decode cX12_matches 257 = .ok (.if_icmp .ne 7, 3) := by decide +kernel
theorem dX12_matches_260 : decode cX12_matches 260 = .ok (.iconst 1, 1) := by decide +kernel
theorem dX12_matches_261 : decode cX12_matches 261 = .ok (.goto 4, 3) := by decide +kernel
theorem dX12_matches_264 : decode cX12_matches 264 = .ok (.iconst 0, 1) := by decide +kernel
theorem dX12_matches_265 : decode cX12_matches 265 = .ok (.istore 9, 2) := by decide +kernel
theorem dX12_matches_267 : decode cX12_matches 267 = .ok (.iload 8, 2) := by decide +kernel
theorem dX12_matches_269 : decode cX12_matches 269 = .ok (.ifCond .eq 8, 3) := by decide +kernel
theorem dX12_matches_272 : decode cX12_matches 272 = .ok (.iload 9, 2) := by decide +kernel
theorem dX12_matches_274 : decode cX12_matches 274 = .ok (.ifCond .ne 5, 3) := by decide +kernel
theorem dX12_matches_277 : decode cX12_matches 277 = .ok (.iconst 0, 1) := by decide +kernel
theorem dX12_matches_278 : decode cX12_matches 278 = .ok (.ireturn, 1) := by decide +kernel
theorem dX12_matches_279 : decode cX12_matches 279 = .ok (.iload 7, 2) := by decide +kernel
theorem dX12_matches_281 : decode cX12_matches 281 = .ok (.iload 5, 2) := by decide +kernel
theorem dX12_matches_283 : decode cX12_matches 283 = .ok (.if_icmp .ne 39, 3) := by decide +kernel
theorem dX12_matches_286 : decode cX12_matches 286 = .ok (.iload 6, 2) := by decide +kernel
theorem dX12_matches_288 : decode cX12_matches 288 = .ok (.iload_n 2, 1) := by decide +kernel
theorem dX12_matches_289 : decode cX12_matches 289 = .ok (.if_icmp .eq 27, 3) := by decide +kernel
theorem dX12_matches_292 : decode cX12_matches 292 = .ok (.iload 6, 2) := by decide +kernel
theorem dX12_matches_294 : decode cX12_matches 294 = .ok (.iload_n 2, 1) := by decide +kernel
theorem dX12_matches_295 : decode cX12_matches 295 = .ok (.iconst 2, 1) := by decide +kernel
theorem dX12_matches_296 : decode cX12_matches 296 = .ok (.isub, 1) := by decide +kernel
theorem dX12_matches_297 : decode cX12_matches 297 = .ok (.if_icmp .ne 23, 3) := by decide +kernel
theorem dX12_matches_300 : decode cX12_matches 300 = .ok (.aload_n 0, 1) := by decide +kernel
theorem dX12_matches_301 : decode cX12_matches 301 = .ok (.getfield 92, 3) := by decide +kernel
theorem dX12_matches_304 : decode cX12_matches 304 = .ok (.iload_n 1, 1) := by decide +kernel
theorem dX12_matches_305 : decode cX12_matches 305 = .ok (.iload 6, 2) := by decide +kernel
theorem dX12_matches_307 : decode cX12_matches 307 = .ok (.iadd, 1) := by decide +kernel
theorem dX12_matches_308 : decode cX12_matches 308 = .ok (.iconst 1, 1) := by decide +kernel
theorem dX12_matches_309 : decode cX12_matches 309 = .ok (.iadd, 1) := by decide +kernel
theorem dX12_matches_310 : decode cX12_matches 310 = .ok (.baload, 1) := by decide +kernel
theorem dX12_matches_311 : decode cX12_matches 311 = .ok (.bipush 35, 2) := by decide +kernel
theorem dX12_matches_313 : decode cX12_matches 313 = .ok (.if_icmp .ne 7, 3) := by decide +kernel
theorem dX12_matches_316 : decode cX12_matches 316 = .ok (.iconst 1, 1) := by decide +kernel
theorem dX12_matches_317 : decode cX12_matches 317 = .ok (.goto 4, 3) := by decide +kernel
theorem dX12_matches_320 : decode cX12_matches 320 = .ok (.iconst 0, 1) := by decide +kernel
theorem dX12_matches_321 : decode cX12_matches 321 = .ok (.ireturn, 1) := by decide +kernel
theorem dX12_matches_322 : decode cX12_matches 322 = .ok (.iload 6, 2) := by decide +kernel
theorem dX12_matches_324 : decode cX12_matches 324 = .ok (.iload_n 2, 1) := by decide +kernel
theorem dX12_matches_325 : decode cX12_matches 325 = .ok (.if_icmp .ne 5, 3) := by decide +kernel
theorem dX12_matches_328 : decode cX12_matches 328 = .ok (.iconst 0, 1) := by decide +kernel
theorem dX12_matches_329 : decode cX12_matches 329 = .ok (.ireturn, 1) := by decide +kernel
theorem dX12_matches_330 : decode cX12_matches 330 = .ok (.iinc 6 1, 3) := by decide +kernel
theorem dX12_matches_333 : decode cX12_matches 333 = .ok (.iinc 7 1, 3) := by decide +kernel
theorem dX12_matches_336 : decode cX12_matches 336 = .ok (.iload 6, 2) := by decide +kernel
theorem dX12_matches_338 : decode cX12_matches 338 = .ok (.iload_n 2, 1) := by decide +kernel
theorem dX12_matches_339 : decode cX12_matches 339 = .ok (.if_icmp .ne 16, 3) := by decide +kernel
theorem dX12_matches_342 : decode cX12_matches 342 = .ok (.iload 7, 2) := by decide +kernel
theorem dX12_matches_344 : decode cX12_matches 344 = .ok (.iload 5, 2) := by decide +kernel
theorem dX12_matches_346 : decode cX12_matches 346 = .ok (.if_icmp .ne 7, 3) := by decide +kernel
theorem dX12_matches_349 : decode cX12_matches 349 = .ok (.iconst 1, 1) := by decide +kernel
theorem dX12_matches_350 : decode cX12_matches 350 = .ok (.goto 4, 3) := by decide +kernel
theorem dX12_matches_353 : decode cX12_matches 353 = .ok (.iconst 0, 1) := by decide +kernel
theorem dX12_matches_354 : decode cX12_matches 354 = .ok (.ireturn, 1) := by decide +kernel
theorem dX12_matches_355 : decode cX12_matches 355 = .ok (.goto (-298), 3) := by decide +kernel
theorem dX12_take__0 : decode cX12_take_ 0 = .ok (.aload_n 0, 1) := by decide +kernel
theorem dX12_take__1 : decode cX12_take_ 1 = .ok (.getfield 31, 3) := by decide +kernel
theorem dX12_take__4 : decode cX12_take_ 4 = .ok (.sipush 410, 3) := by decide +kernel
theorem dX12_take__7 : decode cX12_take_ 7 = .ok (.aload_n 0, 1) := by decide +kernel
theorem dX12_take__8 : decode cX12_take_ 8 = .ok (.getfield 271, 3) := by decide +kernel
theorem dX12_take__11 : decode cX12_take_ 11 = .ok (.imul, 1) := by decide +kernel
theorem dX12_take__12 : decode cX12_take_ 12 = .ok (.baload, 1) := by decide +kernel
theorem dX12_take__13 : decode cX12_take_ 13 = .ok (.sipush 255, 3) := by decide +kernel
theorem dX12_take__16 : decode cX12_take_ 16 = .ok (.iand, 1) := by decide +kernel
theorem dX12_take__17 : decode cX12_take_ 17 = .ok (.istore_n 1, 1) := by decide +kernel
theorem dX12_take__18 : decode cX12_take_ 18 = .ok (.iload_n 1, 1) := by decide +kernel
theorem dX12_take__19 : decode cX12_take_ 19 = .ok (.iconst 4, 1) := by decide +kernel
theorem dX12_take__20 : decode cX12_take_ 20 = .ok (.ishr, 1) := by decide +kernel
theorem dX12_take__21 : decode cX12_take_ 21 = .ok (.istore_n 2, 1) := by decide +kernel
theorem dX12_take__22 : decode cX12_take_ 22 = .ok (.iload_n 1, 1) := by decide +kernel
theorem dX12_take__23 : decode cX12_take_ 23 = .ok (.bipush 15, 2) := by decide +kernel
theorem dX12_take__25 : decode cX12_take_ 25 = .ok (.iand, 1) := by decide +kernel
theorem dX12_take__26 : decode cX12_take_ 26 = .ok (.istore_n 3, 1) := by decide +kernel
theorem dX12_take__27 : decode cX12_take_ 27 = .ok (.aload_n 0, 1) := by decide +kernel
theorem dX12_take__28 : decode cX12_take_ 28 = .ok (.getfield 34, 3) := by decide +kernel
theorem dX12_take__31 : decode cX12_take_ 31 = .ok (.aload_n 0, 1) := by decide +kernel
theorem dX12_take__32 : decode cX12_take_ 32 = .ok (.getfield 271, 3) := by decide +kernel
theorem dX12_take__35 : decode cX12_take_ 35 = .ok (.iaload, 1) := by decide +kernel
theorem dX12_take__36 : decode cX12_take_ 36 = .ok (.ifCond .ge 17, 3) := by decide +kernel
theorem dX12_take__39 : decode cX12_take_ 39 = .ok (.iload_n 2, 1) := by decide +kernel
theorem dX12_take__40 : decode cX12_take_ 40 = .ok (.iconst 1, 1) := by decide +kernel
theorem dX12_take__41 : decode cX12_take_ 41 = .ok (.if_icmp .eq 12, 3) := by decide +kernel
theorem dX12_take__44 : decode cX12_take_ 44 = .ok (.aload_n 0, 1) := by decide +kernel
theorem dX12_take__45 : decode cX12_take_ 45 = .ok (.aload_n 0, 1) := by decide +kernel
theorem dX12_take__46 : decode cX12_take_ 46 = .ok (.getfield 271, 3) := by decide +kernel
theorem dX12_take__49 : decode cX12_take_ 49 = .ok (.invokevirtual 302, 3) := by decide +kernel
theorem dX12_take__52 : decode cX12_take_ 52 = .ok (.return_, 1) := by decide +kernel
theorem dX12_take__53 : decode cX12_take_ 53 = .ok (.iload_n 2, 1) := by decide +kernel
theorem dX12_take__54 : decode cX12_take_ 54 = .ok (.ifCond .eq 49, 3) := by decide +kernel
theorem dX12_take__57 : decode cX12_take_ 57 = .ok (.iload_n 2, 1) := by decide +kernel
theorem dX12_take__58 : decode cX12_take_ 58 = .ok (.iconst 2, 1) := by decide +kernel
theorem dX12_take__59 : decode cX12_take_ 59 = .ok (.if_icmp .eq 44, 3) := by decide +kernel
theorem dX12_take__62 : decode cX12_take_ 62 = .ok (.iload_n 2, 1) := by decide +kernel
theorem dX12_take__63 : decode cX12_take_ 63 = .ok (.bipush 9, 2) := by decide +kernel
theorem dX12_take__65 : decode cX12_take_ 65 = .ok (.if_icmp .eq 38, 3) := by decide +kernel
theorem dX12_take__68 : decode cX12_take_ 68 = .ok (.iload_n 2, 1) := by decide +kernel
theorem dX12_take__69 : decode cX12_take_ 69 = .ok (.bipush 11, 2) := by decide +kernel
theorem dX12_take__71 : decode cX12_take_ 71 = .ok (.if_icmp .eq 32, 3) := by decide +kernel
theorem dX12_take__74 : decode cX12_take_ 74 = .ok (.iload_n 2, 1) := by decide +kernel
theorem dX12_take__75 : decode cX12_take_ 75 = .ok (.bipush 13, 2) := by decide +kernel
theorem dX12_take__77 : decode cX12_take_ 77 = .ok (.if_icmp .eq 26, 3) := by decide +kernel
theorem dX12_take__80 : decode cX12_take_ 80 = .ok (.iload_n 2, 1) := by decide +kernel
theorem dX12_take__81 : decode cX12_take_ 81 = .ok (.bipush 15, 2) := by decide +kernel
theorem dX12_take__83 : decode cX12_take_ 83 = .ok (.if_icmp .eq 20, 3) := by decide +kernel
theorem dX12_take__86 : decode cX12_take_ 86 = .ok (.iload_n 2, 1) := by decide +kernel
theorem dX12_take__87 : decode cX12_take_ 87 = .ok (.iconst 1, 1) := by decide +kernel
theorem dX12_take__88 : decode cX12_take_ 88 = .ok (.if_icmp .ne 19, 3) := by decide +kernel
theorem dX12_take__91 : decode cX12_take_ 91 = .ok (.aload_n 0, 1) := by decide +kernel
theorem dX12_take__92 : decode cX12_take_ 92 = .ok (.getfield 34, 3) := by decide +kernel
theorem dX12_take__95 : decode cX12_take_ 95 = .ok (.aload_n 0, 1) := by decide +kernel
theorem dX12_take__96 : decode cX12_take_ 96 = .ok (.getfield 271, 3) := by decide +kernel
theorem dX12_take__99 : decode cX12_take_ 99 = .ok (.iaload, 1) := by decide +kernel
theorem dX12_take__100 : decode cX12_take_ 100 = .ok (.ifCond .lt 7, 3) := by decide +kernel
theorem dX12_take__103 : decode cX12_take_ 103 = .ok (.iconst 1, 1) := by decide +kernel
theorem dX12_take__104 : decode cX12_take_ 104 = .ok (.goto 4, 3) := by decide +kernel
theorem dX12_take__107 : decode cX12_take_ 107 = .ok (.iconst 0, 1) := by decide +kernel
theorem dX12_take__108 : decode cX12_take_ 108 = .ok (.istore 4, 2) := by decide +kernel
theorem dX12_take__110 : decode cX12_take_ 110 = .ok (.iload_n 2, 1) := by decide +kernel
theorem dX12_take__111 : decode cX12_take_ 111 = .ok (.bipush 6, 2) := by decide +kernel
theorem dX12_take__113 : decode cX12_take_ 113 = .ok (.if_icmp .eq 15, 3) := by decide +kernel
theorem dX12_take__116 : decode cX12_take_ 116 = .ok (.iload_n 2, 1) := by decide +kernel
theorem dX12_take__117 : decode cX12_take_ 117 = .ok (.bipush 8, 2) := by decide +kernel
theorem dX12_take__119 : decode cX12_take_ 119 = .ok (.if_icmp .eq 9, 3) := by decide +kernel
theorem dX12_take__122 : decode cX12_take_ 122 = .ok (.iload_n 2, 1) := by decide +kernel
theorem dX12_take__123 : decode cX12_take_ 123 = .ok (.bipush 10, 2) := by decide +kernel
theorem dX12_take__125 : decode cX12_take_ 125 = .ok (.if_icmp .ne 7, 3) := by decide +kernel
theorem dX12_take__128 : decode cX12_take_ 128 = .ok (.iconst 2, 1) := by decide +kernel
theorem dX12_take__129 : decode cX12_take_ 129 = .ok (.goto 4, 3) := by decide +kernel
theorem dX12_take__132 : decode cX12_take_ 132 = .ok (.iconst 0, 1) := by decide +kernel
theorem dX12_take__133 : decode cX12_take_ 133 = .ok (.istore 5, 2) := by decide +kernel
theorem dX12_take__135 : decode cX12_take_ 135 = .ok (.iload_n 3, 1) := by decide +kernel
theorem dX12_take__136 : decode cX12_take_ 136 = .ok (.iconst 1, 1) := by decide +kernel
theorem dX12_take__137 : decode cX12_take_ 137 = .ok (.ishr, 1) := by decide +kernel
theorem dX12_take__138 : decode cX12_take_ 138 = .ok (.iconst 3, 1) := by decide +kernel
theorem dX12_take__139 : decode cX12_take_ 139 = .ok (.iand, 1) := by decide +kernel
theorem dX12_take__140 : decode cX12_take_ 140 = .ok (.istore 6, 2) := by decide +kernel
theorem dX12_take__142 : decode cX12_take_ 142 = .ok (.iload 4, 2) := by decide +kernel
theorem dX12_take__144 : decode cX12_take_ 144 = .ok (.ifCond .eq 13, 3) := by decide +kernel
theorem dX12_take__147 : decode cX12_take_ 147 = .ok (.aload_n 0, 1) := by decide +kernel
theorem dX12_take__148 : decode cX12_take_ 148 = .ok (.sipush 130, 3) := by decide +kernel
theorem dX12_take__151 : decode cX12_take_ 151 = .ok (.invokevirtual 343, 3) := by decide +kernel
theorem dX12_take__154 : decode cX12_take_ 154 = .ok (.goto 131, 3) := by decide +kernel
theorem dX12_take__157 : decode cX12_take_ 157 = .ok (.iload_n 2, 1) := by decide +kernel
theorem dX12_take__158 : decode cX12_take_ 158 = .ok (.iconst 3, 1) := by decide +kernel
theorem dX12_take__159 : decode cX12_take_ 159 = .ok (.if_icmp .ne 24, 3) := by decide +kernel
theorem dX12_take__162 : decode cX12_take_ 162 = .ok (.iload 6, 2) := by decide +kernel
theorem dX12_take__164 : decode cX12_take_ 164 = .ok (.iconst 3, 1) := by decide +kernel
theorem dX12_take__165 : decode cX12_take_ 165 = .ok (.if_icmp .eq 24, 3) := by decide +kernel
theorem dX12_take__168 : decode cX12_take_ 168 = .ok (.iload 6, 2) := by decide +kernel
theorem dX12_take__170 : decode cX12_take_ 170 = .ok (.ifCond .ne 29, 3) := by decide +kernel
theorem dX12_take__173 : decode cX12_take_ 173 = .ok (.iload_n 3, 1) := by decide +kernel
theorem dX12_take__174 : decode cX12_take_ 174 = .ok (.bipush 8, 2) := by decide +kernel
theorem dX12_take__176 : decode cX12_take_ 176 = .ok (.iand, 1) := by decide +kernel
theorem dX12_take__177 : decode cX12_take_ 177 = .ok (.ifCond .eq 22, 3) := by decide +kernel
theorem dX12_take__180 : decode cX12_take_ 180 = .ok (.goto 9, 3) := by decide +kernel
theorem dX12_take__183 : decode cX12_take_ 183 = .ok (.iload_n 3, 1) := by decide +kernel
theorem dX12_take__184 : decode cX12_take_ 184 = .ok (.iload 5, 2) := by decide +kernel
theorem dX12_take__186 : decode cX12_take_ 186 = .ok (.if_icmp .eq 13, 3) := by decide +kernel
theorem dX12_take__189 : decode cX12_take_ 189 = .ok (.aload_n 0, 1) := by decide +kernel
theorem dX12_take__190 : decode cX12_take_ 190 = .ok (.sipush 129, 3) := by decide +kernel
theorem dX12_take__193 : decode cX12_take_ 193 = .ok (.invokevirtual 343, 3) := by decide +kernel
theorem dX12_take__196 : decode cX12_take_ 196 = .ok (.goto 89, 3) := by decide +kernel
theorem dX12_take__199 : decode cX12_take_ 199 = .ok (.iload_n 2, 1) := by decide +kernel
theorem dX12_take__200 : decode cX12_take_ 200 = .ok (.iconst 1, 1) := by decide +kernel
theorem dX12_take__201 : decode cX12_take_ 201 = .ok (.if_icmp .ne 10, 3) := by decide +kernel
theorem dX12_take__204 : decode cX12_take_ 204 = .ok (.aload_n 0, 1) := by decide +kernel
theorem dX12_take__205 : decode cX12_take_ 205 = .ok (.invokevirtual 398, 3) := by decide +kernel
theorem dX12_take__208 : decode cX12_take_ 208 = .ok (.goto 77, 3) := by decide +kernel
theorem dX12_take__211 : decode cX12_take_ 211 = .ok (.iload_n 2, 1) := by decide +kernel
theorem dX12_take__212 : decode cX12_take_ 212 = .ok (.iconst 3, 1) := by decide +kernel
theorem dX12_take__213 : decode cX12_take_ 213 = .ok (.if_icmp .ne 15, 3) := by decide +kernel
theorem dX12_take__216 : decode cX12_take_ 216 = .ok (.aload_n 0, 1) := by decide +kernel
theorem dX12_take__217 : decode cX12_take_ 217 = .ok (.iload 6, 2) := by decide +kernel
theorem dX12_take__219 : decode cX12_take_ 219 = .ok (.iload_n 3, 1) := by decide +kernel
theorem dX12_take__220 : decode cX12_take_ 220 = .ok (.iconst 1, 1) := by decide +kernel
theorem dX12_take__221 : decode cX12_take_ 221 = .ok (.iand, 1) := by decide +kernel
theorem dX12_take__222 : decode cX12_take_ 222 = .ok (.invokevirtual 401, 3) := by decide +kernel
theorem dX12_take__225 : decode cX12_take_ 225 = .ok (.goto 60, 3) := by decide +kernel
theorem dX12_take__228 : decode cX12_take_ 228 = .ok (.iload_n 2, 1) := by decide +kernel
theorem dX12_take__229 : decode cX12_take_ 229 = .ok (.bipush 8, 2) := by decide +kernel
theorem dX12_take__231 : decode cX12_take_ 231 = .ok (.if_icmp .ge 11, 3) := by decide +kernel
theorem dX12_take__234 : decode cX12_take_ 234 = .ok (.aload_n 0, 1) := by decide +kernel
theorem dX12_take__235 : decode cX12_take_ 235 = .ok (.iload_n 2, 1) := by decide +kernel
theorem dX12_take__236 : decode cX12_take_ 236 = .ok (.invokevirtual 404, 3) := by decide +kernel
theorem dX12_take__239 : decode cX12_take_ 239 = .ok (.goto 46, 3) := by decide +kernel
theorem dX12_take__242 : decode cX12_take_ 242 = .ok (.iload_n 2, 1) := by decide +kernel
theorem dX12_take__243 : decode cX12_take_ 243 = .ok (.bipush 8, 2) := by decide +kernel
theorem dX12_take__245 : decode cX12_take_ 245 = .ok (.if_icmp .ne 10, 3) := by decide +kernel
theorem dX12_take__248 : decode cX12_take_ 248 = .ok (.aload_n 0, 1) := by decide +kernel
theorem dX12_take__249 : decode cX12_take_ 249 = .ok (.invokevirtual 407, 3) := by decide +kernel
theorem dX12_take__252 : decode cX12_take_ 252 = .ok (.goto 33, 3) := by decide +kernel
theorem dX12_take__255 : decode cX12_take_ 255 = .ok (.iload_n 2, 1) := by decide +kernel
theorem dX12_take__256 : decode cX12_take_ 256 = .ok (.bipush 10, 2) := by decide +kernel
theorem dX12_take__258 : decode cX12_take_ 258 = .ok (.if_icmp .ne 10, 3) := by decide +kernel
theorem dX12_take__261 : decode cX12_take_ 261 = .ok (.aload_n 0, 1) := by decide +kernel
theorem dX12_take__262 : decode cX12_take_ 262 = .ok (.invokevirtual 410, 3) := by decide +kernel
theorem dX12_take__265 : decode cX12_take_ 265 = .ok (.goto 20, 3) := by decide +kernel
theorem dX12_take__268 : decode cX12_take_ 268 = .ok (.iload_n 2, 1) := by decide +kernel
theorem dX12_take__269 : decode cX12_take_ 269 = .ok (.bipush 12, 2) := by decide +kernel
theorem dX12_take__271 : decode cX12_take_ 271 = .ok (.if_icmp .ne 10, 3) := by decide +kernel
theorem dX12_take__274 : decode cX12_take_ 274 = .ok (.aload_n 0, 1) := by decide +kernel
theorem dX12_take__275 : decode cX12_take_ 275 = .ok (.invokevirtual 413, 3) := by decide +kernel
theorem dX12_take__278 : decode cX12_take_ 278 = .ok (.goto 7, 3) := by decide +kernel
theorem dX12_take__281 : decode cX12_take_ 281 = .ok (.aload_n 0, 1) := by decide +kernel
theorem dX12_take__282 : decode cX12_take_ 282 = .ok (.invokevirtual 416, 3) := by decide +kernel
theorem dX12_take__285 : decode cX12_take_ 285 = .ok (.return_, 1) := by decide +kernel
theorem dX12_ping_0 : decode cX12_ping 0 = .ok (.aload_n 0, 1) := by decide +kernel
theorem dX12_ping_1 : decode cX12_ping 1 = .ok (.getfield 274, 3) := by decide +kernel
theorem dX12_ping_4 : decode cX12_ping 4 = .ok (.aload_n 0, 1) := by decide +kernel
theorem dX12_ping_5 : decode cX12_ping 5 = .ok (.getfield 277, 3) := by decide +kernel
theorem dX12_ping_8 : decode cX12_ping 8 = .ok (.if_icmp .ge 10, 3) := by decide +kernel
theorem dX12_ping_11 : decode cX12_ping 11 = .ok (.aload_n 0, 1) := by decide +kernel
theorem dX12_ping_12 : decode cX12_ping 12 = .ok (.sipush 129, 3) := by decide +kernel
theorem dX12_ping_15 : decode cX12_ping 15 = .ok (.invokevirtual 343, 3) := by decide +kernel
theorem dX12_ping_18 : decode cX12_ping 18 = .ok (.aload_n 0, 1) := by decide +kernel
theorem dX12_ping_19 : decode cX12_ping 19 = .ok (.getfield 283, 3) := by decide +kernel
theorem dX12_ping_22 : decode cX12_ping 22 = .ok (.ifCond .eq 4, 3) := by decide +kernel
theorem dX12_ping_25 : decode cX12_ping 25 = .ok (.return_, 1) := by decide +kernel
theorem dX12_ping_26 : decode cX12_ping 26 = .ok (.aload_n 0, 1) := by decide +kernel
theorem dX12_ping_27 : decode cX12_ping 27 = .ok (.aload_n 0, 1) := by decide +kernel
theorem dX12_ping_28 : decode cX12_ping 28 = .ok (.getfield 271, 3) := by decide +kernel
theorem dX12_ping_31 : decode cX12_ping 31 = .ok (.sipush 208, 3) := by decide +kernel
theorem dX12_ping_34 : decode cX12_ping 34 = .ok (.iconst 0, 1) := by decide +kernel
theorem dX12_ping_35 : decode cX12_ping 35 = .ok (.iconst 0, 1) := by decide +kernel
theorem dX12_ping_36 : decode cX12_ping 36 = .ok (.iconst 0, 1) := by decide +kernel
theorem dX12_ping_37 : decode cX12_ping 37 = .ok (.iconst 2, 1) := by decide +kernel
theorem dX12_ping_38 : decode cX12_ping 38 = .ok (.invokevirtual 295, 3) := by decide +kernel
theorem dX12_ping_41 : decode cX12_ping 41 = .ok (.return_, 1) := by decide +kernel
theorem dX12_connect_0 : decode cX12_connect 0 = .ok (.aload_n 0, 1) := by decide +kernel
theorem dX12_connect_1 : decode cX12_connect 1 = .ok (.invokevirtual 388, 3) := by decide +kernel
theorem dX12_connect_4 : decode cX12_connect 4 = .ok (.aload_n 0, 1) := by decide +kernel
theorem dX12_connect_5 : decode cX12_connect 5 = .ok (.getfield 283, 3) := by decide +kernel
theorem dX12_connect_8 : decode cX12_connect 8 = .ok (.ifCond .ne 80, 3) := by decide +kernel
theorem dX12_connect_11 : decode cX12_connect 11 = .ok (.aload_n 0, 1) := by decide +kernel
theorem dX12_connect_12 : decode cX12_connect 12 = .ok (.getfield 356, 3) := by decide +kernel
theorem dX12_connect_15 : decode cX12_connect 15 = .ok (.iconst 4, 1) := by decide +kernel
theorem dX12_connect_16 : decode cX12_connect 16 = .ok (.if_icmp .ne 65, 3) := by decide +kernel
theorem dX12_connect_19 : decode cX12_connect 19 = .ok (.aload_n 0, 1) := by decide +kernel
theorem dX12_connect_20 : decode cX12_connect 20 = .ok (.getfield 31, 3) := by decide +kernel
theorem dX12_connect_23 : decode cX12_connect 23 = .ok (.aload_n 0, 1) := by decide +kernel
theorem dX12_connect_24 : decode cX12_connect 24 = .ok (.getfield 353, 3) := by decide +kernel
theorem dX12_connect_27 : decode cX12_connect 27 = .ok (.baload, 1) := by decide +kernel
theorem dX12_connect_28 : decode cX12_connect 28 = .ok (.bipush 77, 2) := by decide +kernel
theorem dX12_connect_30 : decode cX12_connect 30 = .ok (.if_icmp .ne 51, 3) := by decide +kernel
theorem dX12_connect_33 : decode cX12_connect 33 = .ok (.aload_n 0, 1) := by decide +kernel
theorem dX12_connect_34 : decode cX12_connect 34 = .ok (.getfield 31, 3) := by decide +kernel
theorem dX12_connect_37 : decode cX12_connect 37 = .ok (.aload_n 0, 1) := by decide +kernel
theorem dX12_connect_38 : decode cX12_connect 38 = .ok (.getfield 353, 3) := by decide +kernel
theorem dX12_connect_41 : decode cX12_connect 41 = .ok (.iconst 1, 1) := by decide +kernel
theorem dX12_connect_42 : decode cX12_connect 42 = .ok (.iadd, 1) := by decide +kernel
theorem dX12_connect_43 : decode cX12_connect 43 = .ok (.baload, 1) := by decide +kernel
theorem dX12_connect_44 : decode cX12_connect 44 = .ok (.bipush 81, 2) := by decide +kernel
theorem dX12_connect_46 : decode cX12_connect 46 = .ok (.if_icmp .ne 35, 3) := by decide +kernel
theorem dX12_connect_49 : decode cX12_connect 49 = .ok (.aload_n 0, 1) := by decide +kernel
theorem dX12_connect_50 : decode cX12_connect 50 = .ok (.getfield 31, 3) := by decide +kernel
theorem dX12_connect_53 : decode cX12_connect 53 = .ok (.aload_n 0, 1) := by decide +kernel
theorem dX12_connect_54 : decode cX12_connect 54 = .ok (.getfield 353, 3) := by decide +kernel
theorem dX12_connect_57 : decode cX12_connect 57 = .ok (.iconst 2, 1) := by decide +kernel
