/-! decode rows: the reference. By wip/names.py. -/
theorem dX3_init_0 : decode cX3_init 0 = .ok (.aload_n 0, 1) := by decide +kernel
theorem dX3_init_1 : decode cX3_init 1 = .ok (.invokespecial 1, 3) := by decide +kernel
theorem dX3_init_4 : decode cX3_init 4 = .ok (.aload_n 0, 1) := by decide +kernel
theorem dX3_init_5 : decode cX3_init 5 = .ok (.bipush 48, 2) := by decide +kernel
theorem dX3_init_7 : decode cX3_init 7 = .ok (.newarray .int, 2) := by decide +kernel
theorem dX3_init_9 : decode cX3_init 9 = .ok (.putfield 7, 3) := by decide +kernel
theorem dX3_init_12 : decode cX3_init 12 = .ok (.aload_n 0, 1) := by decide +kernel
theorem dX3_init_13 : decode cX3_init 13 = .ok (.bipush 48, 2) := by decide +kernel
theorem dX3_init_15 : decode cX3_init 15 = .ok (.newarray .int, 2) := by decide +kernel
theorem dX3_init_17 : decode cX3_init 17 = .ok (.putfield 13, 3) := by decide +kernel
theorem dX3_init_20 : decode cX3_init 20 = .ok (.aload_n 0, 1) := by decide +kernel
theorem dX3_init_21 : decode cX3_init 21 = .ok (.bipush 48, 2) := by decide +kernel
theorem dX3_init_23 : decode cX3_init 23 = .ok (.newarray .int, 2) := by decide +kernel
theorem dX3_init_25 : decode cX3_init 25 = .ok (.putfield 16, 3) := by decide +kernel
theorem dX3_init_28 : decode cX3_init 28 = .ok (.aload_n 0, 1) := by decide +kernel
theorem dX3_init_29 : decode cX3_init 29 = .ok (.bipush 48, 2) := by decide +kernel
theorem dX3_init_31 : decode cX3_init 31 = .ok (.newarray .int, 2) := by decide +kernel
theorem dX3_init_33 : decode cX3_init 33 = .ok (.putfield 19, 3) := by decide +kernel
theorem dX3_init_36 : decode cX3_init 36 = .ok (.aload_n 0, 1) := by decide +kernel
theorem dX3_init_37 : decode cX3_init 37 = .ok (.bipush 48, 2) := by decide +kernel
theorem dX3_init_39 : decode cX3_init 39 = .ok (.newarray .int, 2) := by decide +kernel
theorem dX3_init_41 : decode cX3_init 41 = .ok (.putfield 22, 3) := by decide +kernel
theorem dX3_init_44 : decode cX3_init 44 = .ok (.aload_n 0, 1) := by decide +kernel
theorem dX3_init_45 : decode cX3_init 45 = .ok (.bipush 48, 2) := by decide +kernel
theorem dX3_init_47 : decode cX3_init 47 = .ok (.newarray .int, 2) := by decide +kernel
theorem dX3_init_49 : decode cX3_init 49 = .ok (.putfield 25, 3) := by decide +kernel
theorem dX3_init_52 : decode cX3_init 52 = .ok (.aload_n 0, 1) := by decide +kernel
theorem dX3_init_53 : decode cX3_init 53 = .ok (.bipush 48, 2) := by decide +kernel
theorem dX3_init_55 : decode cX3_init 55 = .ok (.newarray .int, 2) := by decide +kernel
theorem dX3_init_57 : decode cX3_init 57 = .ok (.putfield 28, 3) := by decide +kernel
theorem dX3_init_60 : decode cX3_init 60 = .ok (.aload_n 0, 1) := by decide +kernel
theorem dX3_init_61 : decode cX3_init 61 = .ok (.bipush 48, 2) := by decide +kernel
theorem dX3_init_63 : decode cX3_init 63 = .ok (.newarray .int, 2) := by decide +kernel
theorem dX3_init_65 : decode cX3_init 65 = .ok (.putfield 31, 3) := by decide +kernel
theorem dX3_init_68 : decode cX3_init 68 = .ok (.aload_n 0, 1) := by decide +kernel
theorem dX3_init_69 : decode cX3_init 69 = .ok (.bipush 48, 2) := by decide +kernel
theorem dX3_init_71 : decode cX3_init 71 = .ok (.newarray .boolean, 2) := by decide +kernel
theorem dX3_init_73 : decode cX3_init 73 = .ok (.putfield 34, 3) := by decide +kernel
theorem dX3_init_76 : decode cX3_init 76 = .ok (.aload_n 0, 1) := by decide +kernel
theorem dX3_init_77 : decode cX3_init 77 = .ok (.bipush 48, 2) := by decide +kernel
theorem dX3_init_79 : decode cX3_init 79 = .ok (.newarray .int, 2) := by decide +kernel
theorem dX3_init_81 : decode cX3_init 81 = .ok (.putfield 38, 3) := by decide +kernel
theorem dX3_init_84 : decode cX3_init 84 = .ok (.aload_n 0, 1) := by decide +kernel
theorem dX3_init_85 : decode cX3_init 85 = .ok (.iconst (-1), 1) := by decide +kernel
theorem dX3_init_86 : decode cX3_init 86 = .ok (.putfield 41, 3) := by decide +kernel
theorem dX3_init_89 : decode cX3_init 89 = .ok (.return_, 1) := by decide +kernel
theorem dX3_thrown_0 : decode cX3_thrown 0 = .ok (.aload_n 0, 1) := by decide +kernel
theorem dX3_thrown_1 : decode cX3_thrown 1 = .ok (.getfield 45, 3) := by decide +kernel
theorem dX3_thrown_4 : decode cX3_thrown 4 = .ok (.ireturn, 1) := by decide +kernel
theorem dX3_fails_0 : decode cX3_fails 0 = .ok (.aload_n 0, 1) := by decide +kernel
theorem dX3_fails_1 : decode cX3_fails 1 = .ok (.iload_n 1, 1) := by decide +kernel
theorem dX3_fails_2 : decode cX3_fails 2 = .ok (.putfield 45, 3) := by decide +kernel
theorem dX3_fails_5 : decode cX3_fails 5 = .ok (.iconst 0, 1) := by decide +kernel
theorem dX3_fails_6 : decode cX3_fails 6 = .ok (.ireturn, 1) := by decide +kernel
theorem dX3_in_0 : decode cX3_in 0 = .ok (.iload_n 0, 1) := by decide +kernel
theorem dX3_in_1 : decode cX3_in 1 = .ok (.iload_n 1, 1) := by decide +kernel
theorem dX3_in_2 : decode cX3_in 2 = .ok (.if_icmp .lt 12, 3) := by decide +kernel
theorem dX3_in_5 : decode cX3_in 5 = .ok (.iload_n 0, 1) := by decide +kernel
theorem dX3_in_6 : decode cX3_in 6 = .ok (.iload_n 2, 1) := by decide +kernel
theorem dX3_in_7 : decode cX3_in 7 = .ok (.if_icmp .gt 7, 3) := by decide +kernel
theorem dX3_in_10 : decode cX3_in 10 = .ok (.iconst 1, 1) := by decide +kernel
theorem dX3_in_11 : decode cX3_in 11 = .ok (.goto 4, 3) := by decide +kernel
theorem dX3_in_14 : decode cX3_in 14 = .ok (.iconst 0, 1) := by decide +kernel
theorem dX3_in_15 : decode cX3_in 15 = .ok (.ireturn, 1) := by decide +kernel
theorem dX3_isPlace_0 : decode cX3_isPlace 0 = .ok (.iload_n 0, 1) := by decide +kernel
theorem dX3_isPlace_1 : decode cX3_isPlace 1 = .ok (.iconst 0, 1) := by decide +kernel
theorem dX3_isPlace_2 : decode cX3_isPlace 2 = .ok (.bipush 15, 2) := by decide +kernel
theorem dX3_isPlace_4 : decode cX3_isPlace 4 = .ok (.invokestatic 48, 3) := by decide +kernel
theorem dX3_isPlace_7 : decode cX3_isPlace 7 = .ok (.ifCond .eq 27, 3) := by decide +kernel
theorem dX3_isPlace_10 : decode cX3_isPlace 10 = .ok (.iload_n 1, 1) := by decide +kernel
theorem dX3_isPlace_11 : decode cX3_isPlace 11 = .ok (.iconst 0, 1) := by decide +kernel
theorem dX3_isPlace_12 : decode cX3_isPlace 12 = .ok (.bipush 15, 2) := by decide +kernel
theorem dX3_isPlace_14 : decode cX3_isPlace 14 = .ok (.invokestatic 48, 3) := by decide +kernel
theorem dX3_isPlace_17 : decode cX3_isPlace 17 = .ok (.ifCond .eq 17, 3) := by decide +kernel
theorem dX3_isPlace_20 : decode cX3_isPlace 20 = .ok (.iload_n 2, 1) := by decide +kernel
theorem dX3_isPlace_21 : decode cX3_isPlace 21 = .ok (.iconst 0, 1) := by decide +kernel
theorem dX3_isPlace_22 : decode cX3_isPlace 22 = .ok (.bipush 15, 2) := by decide +kernel
theorem dX3_isPlace_24 : decode cX3_isPlace 24 = .ok (.invokestatic 48, 3) := by decide +kernel
theorem dX3_isPlace_27 : decode cX3_isPlace 27 = .ok (.ifCond .eq 7, 3) := by decide +kernel
theorem dX3_isPlace_30 : decode cX3_isPlace 30 = .ok (.iconst 1, 1) := by decide +kernel
theorem dX3_isPlace_31 : decode cX3_isPlace 31 = .ok (.goto 4, 3) := by decide +kernel
theorem dX3_isPlace_34 : decode cX3_isPlace 34 = .ok (.iconst 0, 1) := by decide +kernel
theorem dX3_isPlace_35 : decode cX3_isPlace 35 = .ok (.ireturn, 1) := by decide +kernel
theorem dX3_packed_0 : decode cX3_packed 0 = .ok (.sipush 256, 3) := by decide +kernel
theorem dX3_packed_3 : decode cX3_packed 3 = .ok (.iload_n 0, 1) := by decide +kernel
theorem dX3_packed_4 : decode cX3_packed 4 = .ok (.imul, 1) := by decide +kernel
theorem dX3_packed_5 : decode cX3_packed 5 = .ok (.bipush 16, 2) := by decide +kernel
theorem dX3_packed_7 : decode cX3_packed 7 = .ok (.iload_n 1, 1) := by decide +kernel
theorem dX3_packed_8 : decode cX3_packed 8 = .ok (.imul, 1) := by decide +kernel
theorem dX3_packed_9 : decode cX3_packed 9 = .ok (.iadd, 1) := by decide +kernel
theorem dX3_packed_10 : decode cX3_packed 10 = .ok (.iload_n 2, 1) := by decide +kernel
theorem dX3_packed_11 : decode cX3_packed 11 = .ok (.iadd, 1) := by decide +kernel
theorem dX3_packed_12 : decode cX3_packed 12 = .ok (.ireturn, 1) := by decide +kernel
theorem dX3_axis_0 : decode cX3_axis 0 = .ok (.iload_n 1, 1) := by decide +kernel
theorem dX3_axis_1 : decode cX3_axis 1 = .ok (.ifCond .ne 11, 3) := by decide +kernel
theorem dX3_axis_4 : decode cX3_axis 4 = .ok (.iload_n 0, 1) := by decide +kernel
theorem dX3_axis_5 : decode cX3_axis 5 = .ok (.sipush 256, 3) := by decide +kernel
theorem dX3_axis_8 : decode cX3_axis 8 = .ok (.idiv, 1) := by decide +kernel
theorem dX3_axis_9 : decode cX3_axis 9 = .ok (.goto 22, 3) := by decide +kernel
theorem dX3_axis_12 : decode cX3_axis 12 = .ok (.iload_n 1, 1) := by decide +kernel
theorem dX3_axis_13 : decode cX3_axis 13 = .ok (.iconst 1, 1) := by decide +kernel
theorem dX3_axis_14 : decode cX3_axis 14 = .ok (.if_icmp .ne 13, 3) := by decide +kernel
theorem dX3_axis_17 : decode cX3_axis 17 = .ok (.iload_n 0, 1) := by decide +kernel
theorem dX3_axis_18 : decode cX3_axis 18 = .ok (.bipush 16, 2) := by decide +kernel
theorem dX3_axis_20 : decode cX3_axis 20 = .ok (.idiv, 1) := by decide +kernel
theorem dX3_axis_21 : decode cX3_axis 21 = .ok (.bipush 16, 2) := by decide +kernel
theorem dX3_axis_23 : decode cX3_axis 23 = .ok (.irem, 1) := by decide +kernel
theorem dX3_axis_24 : decode cX3_axis 24 = .ok (.goto 7, 3) := by decide +kernel
theorem dX3_axis_27 : decode cX3_axis 27 = .ok (.iload_n 0, 1) := by decide +kernel
theorem dX3_axis_28 : decode cX3_axis 28 = .ok (.bipush 16, 2) := by decide +kernel
theorem dX3_axis_30 : decode cX3_axis 30 = .ok (.irem, 1) := by decide +kernel
theorem dX3_axis_31 : decode cX3_axis 31 = .ok (.ireturn, 1) := by decide +kernel
theorem dX3_rankOf_0 : decode cX3_rankOf 0 = .ok (.iload_n 0, 1) := by decide +kernel
theorem dX3_rankOf_1 : decode cX3_rankOf 1 = .ok (.istore_n 1, 1) := by decide +kernel
theorem dX3_rankOf_2 : decode cX3_rankOf 2 = .ok (.iconst 0, 1) := by decide +kernel
theorem dX3_rankOf_3 : decode cX3_rankOf 3 = .ok (.istore_n 2, 1) := by decide +kernel
theorem dX3_rankOf_4 : decode cX3_rankOf 4 = .ok (.iload_n 2, 1) := by decide +kernel
theorem dX3_rankOf_5 : decode cX3_rankOf 5 = .ok (.iconst 3, 1) := by decide +kernel
theorem dX3_rankOf_6 : decode cX3_rankOf 6 = .ok (.if_icmp .ge 21, 3) := by decide +kernel
theorem dX3_rankOf_9 : decode cX3_rankOf 9 = .ok (.iload_n 1, 1) := by decide +kernel
theorem dX3_rankOf_10 : decode cX3_rankOf 10 = .ok (.ldc 52, 2) := by decide +kernel
theorem dX3_rankOf_12 : decode cX3_rankOf 12 = .ok (.imul, 1) := by decide +kernel
theorem dX3_rankOf_13 : decode cX3_rankOf 13 = .ok (.istore_n 1, 1) := by decide +kernel
theorem dX3_rankOf_14 : decode cX3_rankOf 14 = .ok (.iload_n 1, 1) := by decide +kernel
theorem dX3_rankOf_15 : decode cX3_rankOf 15 = .ok (.iload_n 1, 1) := by decide +kernel
theorem dX3_rankOf_16 : decode cX3_rankOf 16 = .ok (.bipush 16, 2) := by decide +kernel
theorem dX3_rankOf_18 : decode cX3_rankOf 18 = .ok (.iushr, 1) := by decide +kernel
theorem dX3_rankOf_19 : decode cX3_rankOf 19 = .ok (.ixor, 1) := by decide +kernel
theorem dX3_rankOf_20 : decode cX3_rankOf 20 = .ok (.istore_n 1, 1) := by decide +kernel
theorem dX3_rankOf_21 : decode cX3_rankOf 21 = .ok (.iinc 2 1, 3) := by decide +kernel
theorem dX3_rankOf_24 : decode cX3_rankOf 24 = .ok (.goto (-20), 3) := by decide +kernel
theorem dX3_rankOf_27 : decode cX3_rankOf 27 = .ok (.iload_n 1, 1) := by decide +kernel
theorem dX3_rankOf_28 : decode cX3_rankOf 28 = .ok (.ifCond .ge 12, 3) := by decide +kernel
theorem dX3_rankOf_31 : decode cX3_rankOf 31 = .ok (.iload_n 1, 1) := by decide +kernel
theorem dX3_rankOf_32 : decode cX3_rankOf 32 = .ok (.i2l, 1) := by decide +kernel
theorem dX3_rankOf_33 : decode cX3_rankOf 33 = .ok (.ldc2_w 53, 3) := by decide +kernel
theorem dX3_rankOf_36 : decode cX3_rankOf 36 = .ok (.ladd, 1) := by decide +kernel
theorem dX3_rankOf_37 : decode cX3_rankOf 37 = .ok (.goto 5, 3) := by decide +kernel
theorem dX3_rankOf_40 : decode cX3_rankOf 40 = .ok (.iload_n 1, 1) := by decide +kernel
theorem dX3_rankOf_41 : decode cX3_rankOf 41 = .ok (.i2l, 1) := by decide +kernel
theorem dX3_rankOf_42 : decode cX3_rankOf 42 = .ok (.lreturn, 1) := by decide +kernel
theorem dX3_rank_0 : decode cX3_rank 0 = .ok (.aload_n 0, 1) := by decide +kernel
theorem dX3_rank_1 : decode cX3_rank 1 = .ok (.iconst 0, 1) := by decide +kernel
theorem dX3_rank_2 : decode cX3_rank 2 = .ok (.putfield 45, 3) := by decide +kernel
theorem dX3_rank_5 : decode cX3_rank 5 = .ok (.iload_n 1, 1) := by decide +kernel
theorem dX3_rank_6 : decode cX3_rank 6 = .ok (.invokestatic 55, 3) := by decide +kernel
theorem dX3_rank_9 : decode cX3_rank 9 = .ok (.lreturn, 1) := by decide +kernel
theorem dX3_find_0 : decode cX3_find 0 = .ok (.iconst (-1), 1) := by decide +kernel
theorem dX3_find_1 : decode cX3_find 1 = .ok (.istore_n 2, 1) := by decide +kernel
theorem dX3_find_2 : decode cX3_find 2 = .ok (.iconst 0, 1) := by decide +kernel
theorem dX3_find_3 : decode cX3_find 3 = .ok (.istore_n 3, 1) := by decide +kernel
theorem dX3_find_4 : decode cX3_find 4 = .ok (.iload_n 3, 1) := by decide +kernel
theorem dX3_find_5 : decode cX3_find 5 = .ok (.aload_n 0, 1) := by decide +kernel
theorem dX3_find_6 : decode cX3_find 6 = .ok (.getfield 59, 3) := by decide +kernel
theorem dX3_find_9 : decode cX3_find 9 = .ok (.if_icmp .ge 25, 3) := by decide +kernel
theorem dX3_find_12 : decode cX3_find 12 = .ok (.aload_n 0, 1) := by decide +kernel
theorem dX3_find_13 : decode cX3_find 13 = .ok (.getfield 7, 3) := by decide +kernel
theorem dX3_find_16 : decode cX3_find 16 = .ok (.iload_n 3, 1) := by decide +kernel
theorem dX3_find_17 : decode cX3_find 17 = .ok (.iaload, 1) := by decide +kernel
theorem dX3_find_18 : decode cX3_find 18 = .ok (.iload_n 1, 1) := by decide +kernel
theorem dX3_find_19 : decode cX3_find 19 = .ok (.if_icmp .ne 7, 3) := by decide +kernel
theorem dX3_find_22 : decode cX3_find 22 = .ok (.iload_n 3, 1) := by decide +kernel
theorem dX3_find_23 : decode cX3_find 23 = .ok (.goto 4, 3) := by decide +kernel
theorem dX3_find_26 : decode cX3_find 26 = .ok (.iload_n 2, 1) := by decide +kernel
theorem dX3_find_27 : decode cX3_find 27 = .ok (.istore_n 2, 1) := by decide +kernel
theorem dX3_find_28 : decode cX3_find 28 = .ok (.iinc 3 1, 3) := by decide +kernel
theorem dX3_find_31 : decode cX3_find 31 = .ok (.goto (-27), 3) := by decide +kernel
theorem dX3_find_34 : decode cX3_find 34 = .ok (.iload_n 2, 1) := by decide +kernel
theorem dX3_find_35 : decode cX3_find 35 = .ok (.ireturn, 1) := by decide +kernel
theorem dX3_isOne_0 : decode cX3_isOne 0 = .ok (.iconst 4, 1) := by decide +kernel
theorem dX3_isOne_1 : decode cX3_isOne 1 = .ok (.iload_n 2, 1) := by decide +kernel
theorem dX3_isOne_2 : decode cX3_isOne 2 = .ok (.isub, 1) := by decide +kernel
theorem dX3_isOne_3 : decode cX3_isOne 3 = .ok (.istore_n 3, 1) := by decide +kernel
theorem dX3_isOne_4 : decode cX3_isOne 4 = .ok (.iload_n 0, 1) := by decide +kernel
theorem dX3_isOne_5 : decode cX3_isOne 5 = .ok (.iconst 0, 1) := by decide +kernel
theorem dX3_isOne_6 : decode cX3_isOne 6 = .ok (.invokestatic 62, 3) := by decide +kernel
theorem dX3_isOne_9 : decode cX3_isOne 9 = .ok (.iload_n 3, 1) := by decide +kernel
theorem dX3_isOne_10 : decode cX3_isOne 10 = .ok (.ishr, 1) := by decide +kernel
theorem dX3_isOne_11 : decode cX3_isOne 11 = .ok (.iload_n 1, 1) := by decide +kernel
theorem dX3_isOne_12 : decode cX3_isOne 12 = .ok (.iconst 0, 1) := by decide +kernel
theorem dX3_isOne_13 : decode cX3_isOne 13 = .ok (.invokestatic 62, 3) := by decide +kernel
theorem dX3_isOne_16 : decode cX3_isOne 16 = .ok (.iload_n 3, 1) := by decide +kernel
theorem dX3_isOne_17 : decode cX3_isOne 17 = .ok (.ishr, 1) := by decide +kernel
theorem dX3_isOne_18 : decode cX3_isOne 18 = .ok (.if_icmp .ne 41, 3) := by decide +kernel
theorem dX3_isOne_21 : decode cX3_isOne 21 = .ok (.iload_n 0, 1) := by decide +kernel
theorem dX3_isOne_22 : decode cX3_isOne 22 = .ok (.iconst 1, 1) := by decide +kernel
theorem dX3_isOne_23 : decode cX3_isOne 23 = .ok (.invokestatic 62, 3) := by decide +kernel
theorem dX3_isOne_26 : decode cX3_isOne 26 = .ok (.iload_n 3, 1) := by decide +kernel
theorem dX3_isOne_27 : decode cX3_isOne 27 = .ok (.ishr, 1) := by decide +kernel
theorem dX3_isOne_28 : decode cX3_isOne 28 = .ok (.iload_n 1, 1) := by decide +kernel
theorem dX3_isOne_29 : decode cX3_isOne 29 = .ok (.iconst 1, 1) := by decide +kernel
theorem dX3_isOne_30 : decode cX3_isOne 30 = .ok (.invokestatic 62, 3) := by decide +kernel
theorem dX3_isOne_33 : decode cX3_isOne 33 = .ok (.iload_n 3, 1) := by decide +kernel
theorem dX3_isOne_34 : decode cX3_isOne 34 = .ok (.ishr, 1) := by decide +kernel
theorem dX3_isOne_35 : decode cX3_isOne 35 = .ok (.if_icmp .ne 24, 3) := by decide +kernel
theorem dX3_isOne_38 : decode cX3_isOne 38 = .ok (.iload_n 0, 1) := by decide +kernel
theorem dX3_isOne_39 : decode cX3_isOne 39 = .ok (.iconst 2, 1) := by decide +kernel
theorem dX3_isOne_40 : decode cX3_isOne 40 = .ok (.invokestatic 62, 3) := by decide +kernel
theorem dX3_isOne_43 : decode cX3_isOne 43 = .ok (.iload_n 3, 1) := by decide +kernel
theorem dX3_isOne_44 : decode cX3_isOne 44 = .ok (.ishr, 1) := by decide +kernel
theorem dX3_isOne_45 : decode cX3_isOne 45 = .ok (.iload_n 1, 1) := by decide +kernel
theorem dX3_isOne_46 : decode cX3_isOne 46 = .ok (.iconst 2, 1) := by decide +kernel
theorem dX3_isOne_47 : decode cX3_isOne 47 = .ok (.invokestatic 62, 3) := by decide +kernel
theorem dX3_isOne_50 : decode cX3_isOne 50 = .ok (.iload_n 3, 1) := by decide +kernel
theorem dX3_isOne_51 : decode cX3_isOne 51 = .ok (.ishr, 1) := by decide +kernel
theorem dX3_isOne_52 : decode cX3_isOne 52 = .ok (.if_icmp .ne 7, 3) := by decide +kernel
theorem dX3_isOne_55 : decode cX3_isOne 55 = .ok (.iconst 1, 1) := by decide +kernel
theorem dX3_isOne_56 : decode cX3_isOne 56 = .ok (.goto 4, 3) := by decide +kernel
theorem dX3_isOne_59 : decode cX3_isOne 59 = .ok (.iconst 0, 1) := by decide +kernel
theorem dX3_isOne_60 : decode cX3_isOne 60 = .ok (.ireturn, 1) := by decide +kernel
theorem dX3_keeps_0 : decode cX3_keeps 0 = .ok (.iconst 0, 1) := by decide +kernel
theorem dX3_keeps_1 : decode cX3_keeps 1 = .ok (.istore_n 3, 1) := by decide +kernel
theorem dX3_keeps_2 : decode cX3_keeps 2 = .ok (.iconst 0, 1) := by decide +kernel
theorem dX3_keeps_3 : decode cX3_keeps 3 = .ok (.istore 4, 2) := by decide +kernel
theorem dX3_keeps_5 : decode cX3_keeps 5 = .ok (.iload 4, 2) := by decide +kernel
theorem dX3_keeps_7 : decode cX3_keeps 7 = .ok (.aload_n 0, 1) := by decide +kernel
theorem dX3_keeps_8 : decode cX3_keeps 8 = .ok (.getfield 59, 3) := by decide +kernel
theorem dX3_keeps_11 : decode cX3_keeps 11 = .ok (.if_icmp .ge 53, 3) := by decide +kernel
theorem dX3_keeps_14 : decode cX3_keeps 14 = .ok (.aload_n 0, 1) := by decide +kernel
theorem dX3_keeps_15 : decode cX3_keeps 15 = .ok (.getfield 34, 3) := by decide +kernel
theorem dX3_keeps_18 : decode cX3_keeps 18 = .ok (.iload 4, 2) := by decide +kernel
theorem dX3_keeps_20 : decode cX3_keeps 20 = .ok (.baload, 1) := by decide +kernel
theorem dX3_keeps_21 : decode cX3_keeps 21 = .ok (.ifCond .eq 35, 3) := by decide +kernel
theorem dX3_keeps_24 : decode cX3_keeps 24 = .ok (.aload_n 0, 1) := by decide +kernel
theorem dX3_keeps_25 : decode cX3_keeps 25 = .ok (.getfield 19, 3) := by decide +kernel
theorem dX3_keeps_28 : decode cX3_keeps 28 = .ok (.iload 4, 2) := by decide +kernel
theorem dX3_keeps_30 : decode cX3_keeps 30 = .ok (.iaload, 1) := by decide +kernel
theorem dX3_keeps_31 : decode cX3_keeps 31 = .ok (.iload_n 2, 1) := by decide +kernel
theorem dX3_keeps_32 : decode cX3_keeps 32 = .ok (.if_icmp .ne 24, 3) := by decide +kernel
theorem dX3_keeps_35 : decode cX3_keeps 35 = .ok (.aload_n 0, 1) := by decide +kernel
theorem dX3_keeps_36 : decode cX3_keeps 36 = .ok (.getfield 13, 3) := by decide +kernel
theorem dX3_keeps_39 : decode cX3_keeps 39 = .ok (.iload 4, 2) := by decide +kernel
theorem dX3_keeps_41 : decode cX3_keeps 41 = .ok (.iaload, 1) := by decide +kernel
theorem dX3_keeps_42 : decode cX3_keeps 42 = .ok (.iload_n 1, 1) := by decide +kernel
theorem dX3_keeps_43 : decode cX3_keeps 43 = .ok (.iload_n 2, 1) := by decide +kernel
theorem dX3_keeps_44 : decode cX3_keeps 44 = .ok (.invokestatic 66, 3) := by decide +kernel
theorem dX3_keeps_47 : decode cX3_keeps 47 = .ok (.ifCond .eq 9, 3) := by decide +kernel
theorem dX3_keeps_50 : decode cX3_keeps 50 = .ok (.iload_n 3, 1) := by decide +kernel
theorem dX3_keeps_51 : decode cX3_keeps 51 = .ok (.iconst 1, 1) := by decide +kernel
theorem dX3_keeps_52 : decode cX3_keeps 52 = .ok (.iadd, 1) := by decide +kernel
theorem dX3_keeps_53 : decode cX3_keeps 53 = .ok (.goto 4, 3) := by decide +kernel
theorem dX3_keeps_56 : decode cX3_keeps 56 = .ok (.iload_n 3, 1) := by decide +kernel
theorem dX3_keeps_57 : decode cX3_keeps 57 = .ok (.istore_n 3, 1) := by decide +kernel
theorem dX3_keeps_58 : decode cX3_keeps 58 = .ok (.iinc 4 1, 3) := by decide +kernel
theorem dX3_keeps_61 : decode cX3_keeps 61 = .ok (.goto (-56), 3) := by decide +kernel
theorem dX3_keeps_64 : decode cX3_keeps 64 = .ok (.iload_n 3, 1) := by decide +kernel
theorem dX3_keeps_65 : decode cX3_keeps 65 = .ok (.ireturn, 1) := by decide +kernel
theorem dX3_greatest_0 : decode cX3_greatest 0 = .ok (.iconst (-1), 1) := by decide +kernel
theorem dX3_greatest_1 : decode cX3_greatest 1 = .ok (.istore_n 1, 1) := by decide +kernel
theorem dX3_greatest_2 : decode cX3_greatest 2 = .ok (.iconst 0, 1) := by decide +kernel
theorem dX3_greatest_3 : decode cX3_greatest 3 = .ok (.istore_n 2, 1) := by decide +kernel
theorem dX3_greatest_4 : decode cX3_greatest 4 = .ok (.iload_n 2, 1) := by decide +kernel
theorem dX3_greatest_5 : decode cX3_greatest 5 = .ok (.aload_n 0, 1) := by decide +kernel
theorem dX3_greatest_6 : decode cX3_greatest 6 = .ok (.getfield 59, 3) := by decide +kernel
theorem dX3_greatest_9 : decode cX3_greatest 9 = .ok (.if_icmp .ge 50, 3) := by decide +kernel
theorem dX3_greatest_12 : decode cX3_greatest 12 = .ok (.aload_n 0, 1) := by decide +kernel
theorem dX3_greatest_13 : decode cX3_greatest 13 = .ok (.getfield 34, 3) := by decide +kernel
theorem dX3_greatest_16 : decode cX3_greatest 16 = .ok (.iload_n 2, 1) := by decide +kernel
theorem dX3_greatest_17 : decode cX3_greatest 17 = .ok (.baload, 1) := by decide +kernel
theorem dX3_greatest_18 : decode cX3_greatest 18 = .ok (.ifCond .ne 33, 3) := by decide +kernel
theorem dX3_greatest_21 : decode cX3_greatest 21 = .ok (.iload_n 1, 1) := by decide +kernel
theorem dX3_greatest_22 : decode cX3_greatest 22 = .ok (.ifCond .lt 25, 3) := by decide +kernel
theorem dX3_greatest_25 : decode cX3_greatest 25 = .ok (.aload_n 0, 1) := by decide +kernel
theorem dX3_greatest_26 : decode cX3_greatest 26 = .ok (.getfield 7, 3) := by decide +kernel
theorem dX3_greatest_29 : decode cX3_greatest 29 = .ok (.iload_n 2, 1) := by decide +kernel
theorem dX3_greatest_30 : decode cX3_greatest 30 = .ok (.iaload, 1) := by decide +kernel
theorem dX3_greatest_31 : decode cX3_greatest 31 = .ok (.invokestatic 55, 3) := by decide +kernel
theorem dX3_greatest_34 : decode cX3_greatest 34 = .ok (.aload_n 0, 1) := by decide +kernel
theorem dX3_greatest_35 : decode cX3_greatest 35 = .ok (.getfield 7, 3) := by decide +kernel
theorem dX3_greatest_38 : decode cX3_greatest 38 = .ok (.iload_n 1, 1) := by decide +kernel
theorem dX3_greatest_39 : decode cX3_greatest 39 = .ok (.iaload, 1) := by decide +kernel
theorem dX3_greatest_40 : decode cX3_greatest 40 = .ok (.invokestatic 55, 3) := by decide +kernel
theorem dX3_greatest_43 : decode cX3_greatest 43 = .ok (.lcmp, 1) := by decide +kernel
theorem dX3_greatest_44 : decode cX3_greatest 44 = .ok (.ifCond .le 7, 3) := by decide +kernel
theorem dX3_greatest_47 : decode cX3_greatest 47 = .ok (.iload_n 2, 1) := by decide +kernel
theorem dX3_greatest_48 : decode cX3_greatest 48 = .ok (.goto 4, 3) := by decide +kernel
theorem dX3_greatest_51 : decode cX3_greatest 51 = .ok (.iload_n 1, 1) := by decide +kernel
theorem dX3_greatest_52 : decode cX3_greatest 52 = .ok (.istore_n 1, 1) := by decide +kernel
theorem dX3_greatest_53 : decode cX3_greatest 53 = .ok (.iinc 2 1, 3) := by decide +kernel
theorem dX3_greatest_56 : decode cX3_greatest 56 = .ok (.goto (-52), 3) := by decide +kernel
theorem dX3_greatest_59 : decode cX3_greatest 59 = .ok (.iload_n 1, 1) := by decide +kernel
theorem dX3_greatest_60 : decode cX3_greatest 60 = .ok (.ireturn, 1) := by decide +kernel
theorem dX3_settle_0 : decode cX3_settle 0 = .ok (.iconst 0, 1) := by decide +kernel
theorem dX3_settle_1 : decode cX3_settle 1 = .ok (.istore_n 1, 1) := by decide +kernel
theorem dX3_settle_2 : decode cX3_settle 2 = .ok (.iload_n 1, 1) := by decide +kernel
theorem dX3_settle_3 : decode cX3_settle 3 = .ok (.aload_n 0, 1) := by decide +kernel
theorem dX3_settle_4 : decode cX3_settle 4 = .ok (.getfield 59, 3) := by decide +kernel
theorem dX3_settle_7 : decode cX3_settle 7 = .ok (.if_icmp .ge 16, 3) := by decide +kernel
theorem dX3_settle_10 : decode cX3_settle 10 = .ok (.aload_n 0, 1) := by decide +kernel
theorem dX3_settle_11 : decode cX3_settle 11 = .ok (.getfield 34, 3) := by decide +kernel
theorem dX3_settle_14 : decode cX3_settle 14 = .ok (.iload_n 1, 1) := by decide +kernel
theorem dX3_settle_15 : decode cX3_settle 15 = .ok (.iconst 0, 1) := by decide +kernel
theorem dX3_settle_16 : decode cX3_settle 16 = .ok (.bastore, 1) := by decide +kernel
theorem dX3_settle_17 : decode cX3_settle 17 = .ok (.iinc 1 1, 3) := by decide +kernel
theorem dX3_settle_20 : decode cX3_settle 20 = .ok (.goto (-18), 3) := by decide +kernel
theorem dX3_settle_23 : decode cX3_settle 23 = .ok (.iconst 0, 1) := by decide +kernel
theorem dX3_settle_24 : decode cX3_settle 24 = .ok (.istore_n 1, 1) := by decide +kernel
theorem dX3_settle_25 : decode cX3_settle 25 = .ok (.iload_n 1, 1) := by decide +kernel
theorem dX3_settle_26 : decode cX3_settle 26 = .ok (.aload_n 0, 1) := by decide +kernel
theorem dX3_settle_27 : decode cX3_settle 27 = .ok (.getfield 59, 3) := by decide +kernel
theorem dX3_settle_30 : decode cX3_settle 30 = .ok (.if_icmp .ge 56, 3) := by decide +kernel
theorem dX3_settle_33 : decode cX3_settle 33 = .ok (.aload_n 0, 1) := by decide +kernel
theorem dX3_settle_34 : decode cX3_settle 34 = .ok (.invokevirtual 69, 3) := by decide +kernel
theorem dX3_settle_37 : decode cX3_settle 37 = .ok (.istore_n 2, 1) := by decide +kernel
theorem dX3_settle_38 : decode cX3_settle 38 = .ok (.iconst 0, 1) := by decide +kernel
theorem dX3_settle_39 : decode cX3_settle 39 = .ok (.istore_n 3, 1) := by decide +kernel
theorem dX3_settle_40 : decode cX3_settle 40 = .ok (.iload_n 3, 1) := by decide +kernel
theorem dX3_settle_41 : decode cX3_settle 41 = .ok (.iconst 4, 1) := by decide +kernel
theorem dX3_settle_42 : decode cX3_settle 42 = .ok (.if_icmp .ge 24, 3) := by decide +kernel
theorem dX3_settle_45 : decode cX3_settle 45 = .ok (.aload_n 0, 1) := by decide +kernel
theorem dX3_settle_46 : decode cX3_settle 46 = .ok (.aload_n 0, 1) := by decide +kernel
theorem dX3_settle_47 : decode cX3_settle 47 = .ok (.getfield 13, 3) := by decide +kernel
theorem dX3_settle_50 : decode cX3_settle 50 = .ok (.iload_n 2, 1) := by decide +kernel
theorem dX3_settle_51 : decode cX3_settle 51 = .ok (.iaload, 1) := by decide +kernel
theorem dX3_settle_52 : decode cX3_settle 52 = .ok (.iload_n 3, 1) := by decide +kernel
theorem dX3_settle_53 : decode cX3_settle 53 = .ok (.invokevirtual 73, 3) := by decide +kernel
theorem dX3_settle_56 : decode cX3_settle 56 = .ok (.iconst 3, 1) := by decide +kernel
theorem dX3_settle_57 : decode cX3_settle 57 = .ok (.if_icmp .lt 9, 3) := by decide +kernel
theorem dX3_settle_60 : decode cX3_settle 60 = .ok (.iinc 3 1, 3) := by decide +kernel
theorem dX3_settle_63 : decode cX3_settle 63 = .ok (.goto (-23), 3) := by decide +kernel
theorem dX3_settle_66 : decode cX3_settle 66 = .ok (.aload_n 0, 1) := by decide +kernel
theorem dX3_settle_67 : decode cX3_settle 67 = .ok (.getfield 19, 3) := by decide +kernel
theorem dX3_settle_70 : decode cX3_settle 70 = .ok (.iload_n 2, 1) := by decide +kernel
theorem dX3_settle_71 : decode cX3_settle 71 = .ok (.iload_n 3, 1) := by decide +kernel
theorem dX3_settle_72 : decode cX3_settle 72 = .ok (.iastore, 1) := by decide +kernel
theorem dX3_settle_73 : decode cX3_settle 73 = .ok (.aload_n 0, 1) := by decide +kernel
theorem dX3_settle_74 : decode cX3_settle 74 = .ok (.getfield 34, 3) := by decide +kernel
theorem dX3_settle_77 : decode cX3_settle 77 = .ok (.iload_n 2, 1) := by decide +kernel
theorem dX3_settle_78 : decode cX3_settle 78 = .ok (.iconst 1, 1) := by decide +kernel
theorem dX3_settle_79 : decode cX3_settle 79 = .ok (.bastore, 1) := by decide +kernel
theorem dX3_settle_80 : decode cX3_settle 80 = .ok (.iinc 1 1, 3) := by decide +kernel
theorem dX3_settle_83 : decode cX3_settle 83 = .ok (.goto (-58), 3) := by decide +kernel
theorem dX3_settle_86 : decode cX3_settle 86 = .ok (.return_, 1) := by decide +kernel
theorem dX3_isFirst_0 : decode cX3_isFirst 0 = .ok (.iconst 1, 1) := by decide +kernel
theorem dX3_isFirst_1 : decode cX3_isFirst 1 = .ok (.istore_n 2, 1) := by decide +kernel
theorem dX3_isFirst_2 : decode cX3_isFirst 2 = .ok (.iconst 0, 1) := by decide +kernel
theorem dX3_isFirst_3 : decode cX3_isFirst 3 = .ok (.istore_n 3, 1) := by decide +kernel
theorem dX3_isFirst_4 : decode cX3_isFirst 4 = .ok (.iload_n 3, 1) := by decide +kernel
theorem dX3_isFirst_5 : decode cX3_isFirst 5 = .ok (.iload_n 1, 1) := by decide +kernel
theorem dX3_isFirst_6 : decode cX3_isFirst 6 = .ok (.if_icmp .ge 58, 3) := by decide +kernel
theorem dX3_isFirst_9 : decode cX3_isFirst 9 = .ok (.iload_n 2, 1) := by decide +kernel
theorem dX3_isFirst_10 : decode cX3_isFirst 10 = .ok (.ifCond .eq 46, 3) := by decide +kernel
theorem dX3_isFirst_13 : decode cX3_isFirst 13 = .ok (.aload_n 0, 1) := by decide +kernel
theorem dX3_isFirst_14 : decode cX3_isFirst 14 = .ok (.getfield 19, 3) := by decide +kernel
theorem dX3_isFirst_17 : decode cX3_isFirst 17 = .ok (.iload_n 3, 1) := by decide +kernel
theorem dX3_isFirst_18 : decode cX3_isFirst 18 = .ok (.iaload, 1) := by decide +kernel
theorem dX3_isFirst_19 : decode cX3_isFirst 19 = .ok (.aload_n 0, 1) := by decide +kernel
theorem dX3_isFirst_20 : decode cX3_isFirst 20 = .ok (.getfield 19, 3) := by decide +kernel
theorem dX3_isFirst_23 : decode cX3_isFirst 23 = .ok (.iload_n 1, 1) := by decide +kernel
theorem dX3_isFirst_24 : decode cX3_isFirst 24 = .ok (.iaload, 1) := by decide +kernel
theorem dX3_isFirst_25 : decode cX3_isFirst 25 = .ok (.if_icmp .ne 27, 3) := by decide +kernel
theorem dX3_isFirst_28 : decode cX3_isFirst 28 = .ok (.aload_n 0, 1) := by decide +kernel
theorem dX3_isFirst_29 : decode cX3_isFirst 29 = .ok (.getfield 13, 3) := by decide +kernel
theorem dX3_isFirst_32 : decode cX3_isFirst 32 = .ok (.iload_n 3, 1) := by decide +kernel
theorem dX3_isFirst_33 : decode cX3_isFirst 33 = .ok (.iaload, 1) := by decide +kernel
theorem dX3_isFirst_34 : decode cX3_isFirst 34 = .ok (.aload_n 0, 1) := by decide +kernel
theorem dX3_isFirst_35 : decode cX3_isFirst 35 = .ok (.getfield 13, 3) := by decide +kernel
theorem dX3_isFirst_38 : decode cX3_isFirst 38 = .ok (.iload_n 1, 1) := by decide +kernel
theorem dX3_isFirst_39 : decode cX3_isFirst 39 = .ok (.iaload, 1) := by decide +kernel
theorem dX3_isFirst_40 : decode cX3_isFirst 40 = .ok (.aload_n 0, 1) := by decide +kernel
theorem dX3_isFirst_41 : decode cX3_isFirst 41 = .ok (.getfield 19, 3) := by decide +kernel
theorem dX3_isFirst_44 : decode cX3_isFirst 44 = .ok (.iload_n 1, 1) := by decide +kernel
theorem dX3_isFirst_45 : decode cX3_isFirst 45 = .ok (.iaload, 1) := by decide +kernel
theorem dX3_isFirst_46 : decode cX3_isFirst 46 = .ok (.invokestatic 66, 3) := by decide +kernel
theorem dX3_isFirst_49 : decode cX3_isFirst 49 = .ok (.ifCond .ne 7, 3) := by decide +kernel
theorem dX3_isFirst_52 : decode cX3_isFirst 52 = .ok (.iconst 1, 1) := by decide +kernel
theorem dX3_isFirst_53 : decode cX3_isFirst 53 = .ok (.goto 4, 3) := by decide +kernel
theorem dX3_isFirst_56 : decode cX3_isFirst 56 = .ok (.iconst 0, 1) := by decide +kernel
theorem dX3_isFirst_57 : decode cX3_isFirst 57 = .ok (.istore_n 2, 1) := by decide +kernel
theorem dX3_isFirst_58 : decode cX3_isFirst 58 = .ok (.iinc 3 1, 3) := by decide +kernel
theorem dX3_isFirst_61 : decode cX3_isFirst 61 = .ok (.goto (-57), 3) := by decide +kernel
theorem dX3_isFirst_64 : decode cX3_isFirst 64 = .ok (.iload_n 2, 1) := by decide +kernel
theorem dX3_isFirst_65 : decode cX3_isFirst 65 = .ok (.ireturn, 1) := by decide +kernel
theorem dX3_isFirstKept_0 : decode cX3_isFirstKept 0 = .ok (.iconst 1, 1) := by decide +kernel
theorem dX3_isFirstKept_1 : decode cX3_isFirstKept 1 = .ok (.istore_n 2, 1) := by decide +kernel
theorem dX3_isFirstKept_2 : decode cX3_isFirstKept 2 = .ok (.iconst 0, 1) := by decide +kernel
theorem dX3_isFirstKept_3 : decode cX3_isFirstKept 3 = .ok (.istore_n 3, 1) := by decide +kernel
theorem dX3_isFirstKept_4 : decode cX3_isFirstKept 4 = .ok (.iload_n 3, 1) := by decide +kernel
theorem dX3_isFirstKept_5 : decode cX3_isFirstKept 5 = .ok (.iload_n 1, 1) := by decide +kernel
theorem dX3_isFirstKept_6 : decode cX3_isFirstKept 6 = .ok (.if_icmp .ge 58, 3) := by decide +kernel
theorem dX3_isFirstKept_9 : decode cX3_isFirstKept 9 = .ok (.iload_n 2, 1) := by decide +kernel
theorem dX3_isFirstKept_10 : decode cX3_isFirstKept 10 = .ok (.ifCond .eq 46, 3) := by decide +kernel
theorem dX3_isFirstKept_13 : decode cX3_isFirstKept 13 = .ok (.aload_n 0, 1) := by decide +kernel
theorem dX3_isFirstKept_14 : decode cX3_isFirstKept 14 = .ok (.getfield 31, 3) := by decide +kernel
theorem dX3_isFirstKept_17 : decode cX3_isFirstKept 17 = .ok (.iload_n 3, 1) := by decide +kernel
theorem dX3_isFirstKept_18 : decode cX3_isFirstKept 18 = .ok (.iaload, 1) := by decide +kernel
theorem dX3_isFirstKept_19 : decode cX3_isFirstKept 19 = .ok (.aload_n 0, 1) := by decide +kernel
theorem dX3_isFirstKept_20 : decode cX3_isFirstKept 20 = .ok (.getfield 31, 3) := by decide +kernel
theorem dX3_isFirstKept_23 : decode cX3_isFirstKept 23 = .ok (.iload_n 1, 1) := by decide +kernel
theorem dX3_isFirstKept_24 : decode cX3_isFirstKept 24 = .ok (.iaload, 1) := by decide +kernel
theorem dX3_isFirstKept_25 : decode cX3_isFirstKept 25 = .ok (.if_icmp .ne 27, 3) := by decide +kernel
theorem dX3_isFirstKept_28 : decode cX3_isFirstKept 28 = .ok (.aload_n 0, 1) := by decide +kernel
theorem dX3_isFirstKept_29 : decode cX3_isFirstKept 29 = .ok (.getfield 25, 3) := by decide +kernel
theorem dX3_isFirstKept_32 : decode cX3_isFirstKept 32 = .ok (.iload_n 3, 1) := by decide +kernel
theorem dX3_isFirstKept_33 : decode cX3_isFirstKept 33 = .ok (.iaload, 1) := by decide +kernel
theorem dX3_isFirstKept_34 : decode cX3_isFirstKept 34 = .ok (.aload_n 0, 1) := by decide +kernel
theorem dX3_isFirstKept_35 : decode cX3_isFirstKept 35 = .ok (.getfield 25, 3) := by decide +kernel
theorem dX3_isFirstKept_38 : decode cX3_isFirstKept 38 = .ok (.iload_n 1, 1) := by decide +kernel
theorem dX3_isFirstKept_39 : decode cX3_isFirstKept 39 = .ok (.iaload, 1) := by decide +kernel
theorem dX3_isFirstKept_40 : decode cX3_isFirstKept 40 = .ok (.aload_n 0, 1) := by decide +kernel
theorem dX3_isFirstKept_41 : decode cX3_isFirstKept 41 = .ok (.getfield 31, 3) := by decide +kernel
theorem dX3_isFirstKept_44 : decode cX3_isFirstKept 44 = .ok (.iload_n 1, 1) := by decide +kernel
theorem dX3_isFirstKept_45 : decode cX3_isFirstKept 45 = .ok (.iaload, 1) := by decide +kernel
theorem dX3_isFirstKept_46 : decode cX3_isFirstKept 46 = .ok (.invokestatic 66, 3) := by decide +kernel
theorem dX3_isFirstKept_49 : decode cX3_isFirstKept 49 = .ok (.ifCond .ne 7, 3) := by decide +kernel
theorem dX3_isFirstKept_52 : decode cX3_isFirstKept 52 = .ok (.iconst 1, 1) := by decide +kernel
theorem dX3_isFirstKept_53 : decode cX3_isFirstKept 53 = .ok (.goto 4, 3) := by decide +kernel
theorem dX3_isFirstKept_56 : decode cX3_isFirstKept 56 = .ok (.iconst 0, 1) := by decide +kernel
theorem dX3_isFirstKept_57 : decode cX3_isFirstKept 57 = .ok (.istore_n 2, 1) := by decide +kernel
theorem dX3_isFirstKept_58 : decode cX3_isFirstKept 58 = .ok (.iinc 3 1, 3) := by decide +kernel
theorem dX3_isFirstKept_61 : decode cX3_isFirstKept 61 = .ok (.goto (-57), 3) := by decide +kernel
theorem dX3_isFirstKept_64 : decode cX3_isFirstKept 64 = .ok (.iload_n 2, 1) := by decide +kernel
theorem dX3_isFirstKept_65 : decode cX3_isFirstKept 65 = .ok (.ireturn, 1) := by decide +kernel
theorem dX3_add_0 : decode cX3_add 0 = .ok (.aload_n 0, 1) := by decide +kernel
theorem dX3_add_1 : decode cX3_add 1 = .ok (.iconst 0, 1) := by decide +kernel
theorem dX3_add_2 : decode cX3_add 2 = .ok (.putfield 45, 3) := by decide +kernel
theorem dX3_add_5 : decode cX3_add 5 = .ok (.iload_n 2, 1) := by decide +kernel
theorem dX3_add_6 : decode cX3_add 6 = .ok (.iload_n 3, 1) := by decide +kernel
theorem dX3_add_7 : decode cX3_add 7 = .ok (.iload 4, 2) := by decide +kernel
theorem dX3_add_9 : decode cX3_add 9 = .ok (.invokestatic 76, 3) := by decide +kernel
theorem dX3_add_12 : decode cX3_add 12 = .ok (.ifCond .ne 9, 3) := by decide +kernel
theorem dX3_add_15 : decode cX3_add 15 = .ok (.aload_n 0, 1) := by decide +kernel
theorem dX3_add_16 : decode cX3_add 16 = .ok (.iconst 1, 1) := by decide +kernel
theorem dX3_add_17 : decode cX3_add 17 = .ok (.invokevirtual 79, 3) := by decide +kernel
theorem dX3_add_20 : decode cX3_add 20 = .ok (.ireturn, 1) := by decide +kernel
theorem dX3_add_21 : decode cX3_add 21 = .ok (.aload_n 0, 1) := by decide +kernel
theorem dX3_add_22 : decode cX3_add 22 = .ok (.iload_n 1, 1) := by decide +kernel
theorem dX3_add_23 : decode cX3_add 23 = .ok (.invokevirtual 83, 3) := by decide +kernel
theorem dX3_add_26 : decode cX3_add 26 = .ok (.ifCond .ge 12, 3) := by decide +kernel
theorem dX3_add_29 : decode cX3_add 29 = .ok (.aload_n 0, 1) := by decide +kernel
theorem dX3_add_30 : decode cX3_add 30 = .ok (.getfield 59, 3) := by decide +kernel
theorem dX3_add_33 : decode cX3_add 33 = .ok (.bipush 48, 2) := by decide +kernel
theorem dX3_add_35 : decode cX3_add 35 = .ok (.if_icmp .ne 9, 3) := by decide +kernel
theorem dX3_add_38 : decode cX3_add 38 = .ok (.aload_n 0, 1) := by decide +kernel
theorem dX3_add_39 : decode cX3_add 39 = .ok (.iconst 2, 1) := by decide +kernel
theorem dX3_add_40 : decode cX3_add 40 = .ok (.invokevirtual 79, 3) := by decide +kernel
theorem dX3_add_43 : decode cX3_add 43 = .ok (.ireturn, 1) := by decide +kernel
theorem dX3_add_44 : decode cX3_add 44 = .ok (.aload_n 0, 1) := by decide +kernel
theorem dX3_add_45 : decode cX3_add 45 = .ok (.getfield 7, 3) := by decide +kernel
theorem dX3_add_48 : decode cX3_add 48 = .ok (.aload_n 0, 1) := by decide +kernel
theorem dX3_add_49 : decode cX3_add 49 = .ok (.getfield 59, 3) := by decide +kernel
theorem dX3_add_52 : decode cX3_add 52 = .ok (.iload_n 1, 1) := by decide +kernel
theorem dX3_add_53 : decode cX3_add 53 = .ok (.iastore, 1) := by decide +kernel
theorem dX3_add_54 : decode cX3_add 54 = .ok (.aload_n 0, 1) := by decide +kernel
theorem dX3_add_55 : decode cX3_add 55 = .ok (.getfield 13, 3) := by decide +kernel
theorem dX3_add_58 : decode cX3_add 58 = .ok (.aload_n 0, 1) := by decide +kernel
theorem dX3_add_59 : decode cX3_add 59 = .ok (.getfield 59, 3) := by decide +kernel
theorem dX3_add_62 : decode cX3_add 62 = .ok (.iload_n 2, 1) := by decide +kernel
theorem dX3_add_63 : decode cX3_add 63 = .ok (.iload_n 3, 1) := by decide +kernel
theorem dX3_add_64 : decode cX3_add 64 = .ok (.iload 4, 2) := by decide +kernel
theorem dX3_add_66 : decode cX3_add 66 = .ok (.invokestatic 86, 3) := by decide +kernel
theorem dX3_add_69 : decode cX3_add 69 = .ok (.iastore, 1) := by decide +kernel
theorem dX3_add_70 : decode cX3_add 70 = .ok (.aload_n 0, 1) := by decide +kernel
theorem dX3_add_71 : decode cX3_add 71 = .ok (.getfield 16, 3) := by decide +kernel
theorem dX3_add_74 : decode cX3_add 74 = .ok (.aload_n 0, 1) := by decide +kernel
theorem dX3_add_75 : decode cX3_add 75 = .ok (.getfield 59, 3) := by decide +kernel
theorem dX3_add_78 : decode cX3_add 78 = .ok (.iload 5, 2) := by decide +kernel
theorem dX3_add_80 : decode cX3_add 80 = .ok (.iastore, 1) := by decide +kernel
theorem dX3_add_81 : decode cX3_add 81 = .ok (.aload_n 0, 1) := by decide +kernel
theorem dX3_add_82 : decode cX3_add 82 = .ok (.dup, 1) := by decide +kernel
theorem dX3_add_83 : decode cX3_add 83 = .ok (.getfield 59, 3) := by decide +kernel
theorem dX3_add_86 : decode cX3_add 86 = .ok (.iconst 1, 1) := by decide +kernel
theorem dX3_add_87 : decode cX3_add 87 = .ok (.iadd, 1) := by decide +kernel
theorem dX3_add_88 : decode cX3_add 88 = .ok (.putfield 59, 3) := by decide +kernel
theorem dX3_add_91 : decode cX3_add 91 = .ok (.aload_n 0, 1) := by decide +kernel
theorem dX3_add_92 : decode cX3_add 92 = .ok (.invokevirtual 90, 3) := by decide +kernel
theorem dX3_add_95 : decode cX3_add 95 = .ok (.aload_n 0, 1) := by decide +kernel
theorem dX3_add_96 : decode cX3_add 96 = .ok (.getfield 19, 3) := by decide +kernel
theorem dX3_add_99 : decode cX3_add 99 = .ok (.aload_n 0, 1) := by decide +kernel
theorem dX3_add_100 : decode cX3_add 100 = .ok (.getfield 59, 3) := by decide +kernel
theorem dX3_add_103 : decode cX3_add 103 = .ok (.iconst 1, 1) := by decide +kernel
theorem dX3_add_104 : decode cX3_add 104 = .ok (.isub, 1) := by decide +kernel
theorem dX3_add_105 : decode cX3_add 105 = .ok (.iaload, 1) := by decide +kernel
theorem dX3_add_106 : decode cX3_add 106 = .ok (.ireturn, 1) := by decide +kernel
theorem dX3_remove_0 : decode cX3_remove 0 = .ok (.aload_n 0, 1) := by decide +kernel
theorem dX3_remove_1 : decode cX3_remove 1 = .ok (.iconst 0, 1) := by decide +kernel
theorem dX3_remove_2 : decode cX3_remove 2 = .ok (.putfield 45, 3) := by decide +kernel
theorem dX3_remove_5 : decode cX3_remove 5 = .ok (.aload_n 0, 1) := by decide +kernel
theorem dX3_remove_6 : decode cX3_remove 6 = .ok (.iload_n 1, 1) := by decide +kernel
theorem dX3_remove_7 : decode cX3_remove 7 = .ok (.invokevirtual 83, 3) := by decide +kernel
theorem dX3_remove_10 : decode cX3_remove 10 = .ok (.istore_n 2, 1) := by decide +kernel
theorem dX3_remove_11 : decode cX3_remove 11 = .ok (.iload_n 2, 1) := by decide +kernel
theorem dX3_remove_12 : decode cX3_remove 12 = .ok (.ifCond .ge 9, 3) := by decide +kernel
theorem dX3_remove_15 : decode cX3_remove 15 = .ok (.aload_n 0, 1) := by decide +kernel
theorem dX3_remove_16 : decode cX3_remove 16 = .ok (.iconst 1, 1) := by decide +kernel
theorem dX3_remove_17 : decode cX3_remove 17 = .ok (.invokevirtual 79, 3) := by decide +kernel
theorem dX3_remove_20 : decode cX3_remove 20 = .ok (.ireturn, 1) := by decide +kernel
theorem dX3_remove_21 : decode cX3_remove 21 = .ok (.aload_n 0, 1) := by decide +kernel
theorem dX3_remove_22 : decode cX3_remove 22 = .ok (.getfield 19, 3) := by decide +kernel
theorem dX3_remove_25 : decode cX3_remove 25 = .ok (.iload_n 2, 1) := by decide +kernel
theorem dX3_remove_26 : decode cX3_remove 26 = .ok (.iaload, 1) := by decide +kernel
theorem dX3_remove_27 : decode cX3_remove 27 = .ok (.istore_n 3, 1) := by decide +kernel
theorem dX3_remove_28 : decode cX3_remove 28 = .ok (.aload_n 0, 1) := by decide +kernel
theorem dX3_remove_29 : decode cX3_remove 29 = .ok (.dup, 1) := by decide +kernel
theorem dX3_remove_30 : decode cX3_remove 30 = .ok (.getfield 59, 3) := by decide +kernel
theorem dX3_remove_33 : decode cX3_remove 33 = .ok (.iconst 1, 1) := by decide +kernel
theorem dX3_remove_34 : decode cX3_remove 34 = .ok (.isub, 1) := by decide +kernel
theorem dX3_remove_35 : decode cX3_remove 35 = .ok (.putfield 59, 3) := by decide +kernel
theorem dX3_remove_38 : decode cX3_remove 38 = .ok (.aload_n 0, 1) := by decide +kernel
theorem dX3_remove_39 : decode cX3_remove 39 = .ok (.getfield 7, 3) := by decide +kernel
theorem dX3_remove_42 : decode cX3_remove 42 = .ok (.iload_n 2, 1) := by decide +kernel
theorem dX3_remove_43 : decode cX3_remove 43 = .ok (.aload_n 0, 1) := by decide +kernel
theorem dX3_remove_44 : decode cX3_remove 44 = .ok (.getfield 7, 3) := by decide +kernel
theorem dX3_remove_47 : decode cX3_remove 47 = .ok (.aload_n 0, 1) := by decide +kernel
theorem dX3_remove_48 : decode cX3_remove 48 = .ok (.getfield 59, 3) := by decide +kernel
theorem dX3_remove_51 : decode cX3_remove 51 = .ok (.iaload, 1) := by decide +kernel
theorem dX3_remove_52 : decode cX3_remove 52 = .ok (.iastore, 1) := by decide +kernel
theorem dX3_remove_53 : decode cX3_remove 53 = .ok (.aload_n 0, 1) := by decide +kernel
theorem dX3_remove_54 : decode cX3_remove 54 = .ok (.getfield 13, 3) := by decide +kernel
theorem dX3_remove_57 : decode cX3_remove 57 = .ok (.iload_n 2, 1) := by decide +kernel
theorem dX3_remove_58 : decode cX3_remove 58 = .ok (.aload_n 0, 1) := by decide +kernel
theorem dX3_remove_59 : decode cX3_remove 59 = .ok (.getfield 13, 3) := by decide +kernel
theorem dX3_remove_62 : decode cX3_remove 62 = .ok (.aload_n 0, 1) := by decide +kernel
theorem dX3_remove_63 : decode cX3_remove 63 = .ok (.getfield 59, 3) := by decide +kernel
theorem dX3_remove_66 : decode cX3_remove 66 = .ok (.iaload, 1) := by decide +kernel
theorem dX3_remove_67 : decode cX3_remove 67 = .ok (.iastore, 1) := by decide +kernel
theorem dX3_remove_68 : decode cX3_remove 68 = .ok (.aload_n 0, 1) := by decide +kernel
theorem dX3_remove_69 : decode cX3_remove 69 = .ok (.getfield 16, 3) := by decide +kernel
theorem dX3_remove_72 : decode cX3_remove 72 = .ok (.iload_n 2, 1) := by decide +kernel
theorem dX3_remove_73 : decode cX3_remove 73 = .ok (.aload_n 0, 1) := by decide +kernel
theorem dX3_remove_74 : decode cX3_remove 74 = .ok (.getfield 16, 3) := by decide +kernel
theorem dX3_remove_77 : decode cX3_remove 77 = .ok (.aload_n 0, 1) := by decide +kernel
theorem dX3_remove_78 : decode cX3_remove 78 = .ok (.getfield 59, 3) := by decide +kernel
theorem dX3_remove_81 : decode cX3_remove 81 = .ok (.iaload, 1) := by decide +kernel
theorem dX3_remove_82 : decode cX3_remove 82 = .ok (.iastore, 1) := by decide +kernel
theorem dX3_remove_83 : decode cX3_remove 83 = .ok (.aload_n 0, 1) := by decide +kernel
theorem dX3_remove_84 : decode cX3_remove 84 = .ok (.invokevirtual 90, 3) := by decide +kernel
theorem dX3_remove_87 : decode cX3_remove 87 = .ok (.iload_n 3, 1) := by decide +kernel
theorem dX3_remove_88 : decode cX3_remove 88 = .ok (.ireturn, 1) := by decide +kernel
theorem dX3_recolour_0 : decode cX3_recolour 0 = .ok (.aload_n 0, 1) := by decide +kernel
theorem dX3_recolour_1 : decode cX3_recolour 1 = .ok (.iconst 0, 1) := by decide +kernel
theorem dX3_recolour_2 : decode cX3_recolour 2 = .ok (.putfield 45, 3) := by decide +kernel
theorem dX3_recolour_5 : decode cX3_recolour 5 = .ok (.aload_n 0, 1) := by decide +kernel
theorem dX3_recolour_6 : decode cX3_recolour 6 = .ok (.iload_n 1, 1) := by decide +kernel
theorem dX3_recolour_7 : decode cX3_recolour 7 = .ok (.invokevirtual 83, 3) := by decide +kernel
theorem dX3_recolour_10 : decode cX3_recolour 10 = .ok (.istore_n 3, 1) := by decide +kernel
theorem dX3_recolour_11 : decode cX3_recolour 11 = .ok (.iload_n 3, 1) := by decide +kernel
theorem dX3_recolour_12 : decode cX3_recolour 12 = .ok (.ifCond .ge 9, 3) := by decide +kernel
theorem dX3_recolour_15 : decode cX3_recolour 15 = .ok (.aload_n 0, 1) := by decide +kernel
theorem dX3_recolour_16 : decode cX3_recolour 16 = .ok (.iconst 1, 1) := by decide +kernel
theorem dX3_recolour_17 : decode cX3_recolour 17 = .ok (.invokevirtual 79, 3) := by decide +kernel
theorem dX3_recolour_20 : decode cX3_recolour 20 = .ok (.ireturn, 1) := by decide +kernel
theorem dX3_recolour_21 : decode cX3_recolour 21 = .ok (.aload_n 0, 1) := by decide +kernel
theorem dX3_recolour_22 : decode cX3_recolour 22 = .ok (.getfield 16, 3) := by decide +kernel
theorem dX3_recolour_25 : decode cX3_recolour 25 = .ok (.iload_n 3, 1) := by decide +kernel
theorem dX3_recolour_26 : decode cX3_recolour 26 = .ok (.iaload, 1) := by decide +kernel
theorem dX3_recolour_27 : decode cX3_recolour 27 = .ok (.istore 4, 2) := by decide +kernel
theorem dX3_recolour_29 : decode cX3_recolour 29 = .ok (.aload_n 0, 1) := by decide +kernel
theorem dX3_recolour_30 : decode cX3_recolour 30 = .ok (.getfield 16, 3) := by decide +kernel
theorem dX3_recolour_33 : decode cX3_recolour 33 = .ok (.iload_n 3, 1) := by decide +kernel
theorem dX3_recolour_34 : decode cX3_recolour 34 = .ok (.iload_n 2, 1) := by decide +kernel
theorem dX3_recolour_35 : decode cX3_recolour 35 = .ok (.iastore, 1) := by decide +kernel
theorem dX3_recolour_36 : decode cX3_recolour 36 = .ok (.iload 4, 2) := by decide +kernel
theorem dX3_recolour_38 : decode cX3_recolour 38 = .ok (.ireturn, 1) := by decide +kernel
theorem dX3_field_0 : decode cX3_field 0 = .ok (.aload_n 0, 1) := by decide +kernel
theorem dX3_field_1 : decode cX3_field 1 = .ok (.iconst 0, 1) := by decide +kernel
theorem dX3_field_2 : decode cX3_field 2 = .ok (.putfield 45, 3) := by decide +kernel
theorem dX3_field_5 : decode cX3_field 5 = .ok (.iload_n 2, 1) := by decide +kernel
theorem dX3_field_6 : decode cX3_field 6 = .ok (.iconst 0, 1) := by decide +kernel
theorem dX3_field_7 : decode cX3_field 7 = .ok (.iconst 4, 1) := by decide +kernel
theorem dX3_field_8 : decode cX3_field 8 = .ok (.invokestatic 48, 3) := by decide +kernel
theorem dX3_field_11 : decode cX3_field 11 = .ok (.ifCond .ne 9, 3) := by decide +kernel
theorem dX3_field_14 : decode cX3_field 14 = .ok (.aload_n 0, 1) := by decide +kernel
theorem dX3_field_15 : decode cX3_field 15 = .ok (.iconst 1, 1) := by decide +kernel
theorem dX3_field_16 : decode cX3_field 16 = .ok (.invokevirtual 79, 3) := by decide +kernel
theorem dX3_field_19 : decode cX3_field 19 = .ok (.ireturn, 1) := by decide +kernel
theorem dX3_field_20 : decode cX3_field 20 = .ok (.aload_n 0, 1) := by decide +kernel
theorem dX3_field_21 : decode cX3_field 21 = .ok (.iload_n 1, 1) := by decide +kernel
theorem dX3_field_22 : decode cX3_field 22 = .ok (.invokevirtual 83, 3) := by decide +kernel
theorem dX3_field_25 : decode cX3_field 25 = .ok (.istore_n 3, 1) := by decide +kernel
theorem dX3_field_26 : decode cX3_field 26 = .ok (.iload_n 3, 1) := by decide +kernel
theorem dX3_field_27 : decode cX3_field 27 = .ok (.ifCond .ge 9, 3) := by decide +kernel
theorem dX3_field_30 : decode cX3_field 30 = .ok (.aload_n 0, 1) := by decide +kernel
theorem dX3_field_31 : decode cX3_field 31 = .ok (.iconst 2, 1) := by decide +kernel
theorem dX3_field_32 : decode cX3_field 32 = .ok (.invokevirtual 79, 3) := by decide +kernel
theorem dX3_field_35 : decode cX3_field 35 = .ok (.ireturn, 1) := by decide +kernel
theorem dX3_field_36 : decode cX3_field 36 = .ok (.iload_n 2, 1) := by decide +kernel
theorem dX3_field_37 : decode cX3_field 37 = .ok (.iconst 3, 1) := by decide +kernel
theorem dX3_field_38 : decode cX3_field 38 = .ok (.if_icmp .ge 16, 3) := by decide +kernel
theorem dX3_field_41 : decode cX3_field 41 = .ok (.aload_n 0, 1) := by decide +kernel
theorem dX3_field_42 : decode cX3_field 42 = .ok (.getfield 13, 3) := by decide +kernel
theorem dX3_field_45 : decode cX3_field 45 = .ok (.iload_n 3, 1) := by decide +kernel
theorem dX3_field_46 : decode cX3_field 46 = .ok (.iaload, 1) := by decide +kernel
theorem dX3_field_47 : decode cX3_field 47 = .ok (.iload_n 2, 1) := by decide +kernel
theorem dX3_field_48 : decode cX3_field 48 = .ok (.invokestatic 62, 3) := by decide +kernel
theorem dX3_field_51 : decode cX3_field 51 = .ok (.goto 23, 3) := by decide +kernel
theorem dX3_field_54 : decode cX3_field 54 = .ok (.iload_n 2, 1) := by decide +kernel
theorem dX3_field_55 : decode cX3_field 55 = .ok (.iconst 3, 1) := by decide +kernel
theorem dX3_field_56 : decode cX3_field 56 = .ok (.if_icmp .ne 12, 3) := by decide +kernel
theorem dX3_field_59 : decode cX3_field 59 = .ok (.aload_n 0, 1) := by decide +kernel
theorem dX3_field_60 : decode cX3_field 60 = .ok (.getfield 16, 3) := by decide +kernel
theorem dX3_field_63 : decode cX3_field 63 = .ok (.iload_n 3, 1) := by decide +kernel
theorem dX3_field_64 : decode cX3_field 64 = .ok (.iaload, 1) := by decide +kernel
theorem dX3_field_65 : decode cX3_field 65 = .ok (.goto 9, 3) := by decide +kernel
theorem dX3_field_68 : decode cX3_field 68 = .ok (.aload_n 0, 1) := by decide +kernel
theorem dX3_field_69 : decode cX3_field 69 = .ok (.getfield 19, 3) := by decide +kernel
theorem dX3_field_72 : decode cX3_field 72 = .ok (.iload_n 3, 1) := by decide +kernel
theorem dX3_field_73 : decode cX3_field 73 = .ok (.iaload, 1) := by decide +kernel
theorem dX3_field_74 : decode cX3_field 74 = .ok (.ireturn, 1) := by decide +kernel
theorem dX3_corner_0 : decode cX3_corner 0 = .ok (.aload_n 0, 1) := by decide +kernel
theorem dX3_corner_1 : decode cX3_corner 1 = .ok (.iload_n 1, 1) := by decide +kernel
theorem dX3_corner_2 : decode cX3_corner 2 = .ok (.iload_n 2, 1) := by decide +kernel
theorem dX3_corner_3 : decode cX3_corner 3 = .ok (.iload_n 3, 1) := by decide +kernel
theorem dX3_corner_4 : decode cX3_corner 4 = .ok (.invokestatic 76, 3) := by decide +kernel
theorem dX3_corner_7 : decode cX3_corner 7 = .ok (.ifCond .eq 7, 3) := by decide +kernel
theorem dX3_corner_10 : decode cX3_corner 10 = .ok (.iconst 0, 1) := by decide +kernel
theorem dX3_corner_11 : decode cX3_corner 11 = .ok (.goto 4, 3) := by decide +kernel
theorem dX3_corner_14 : decode cX3_corner 14 = .ok (.iconst 1, 1) := by decide +kernel
theorem dX3_corner_15 : decode cX3_corner 15 = .ok (.putfield 45, 3) := by decide +kernel
theorem dX3_corner_18 : decode cX3_corner 18 = .ok (.aload_n 0, 1) := by decide +kernel
theorem dX3_corner_19 : decode cX3_corner 19 = .ok (.aload_n 0, 1) := by decide +kernel
theorem dX3_corner_20 : decode cX3_corner 20 = .ok (.getfield 45, 3) := by decide +kernel
theorem dX3_corner_23 : decode cX3_corner 23 = .ok (.ifCond .ne 12, 3) := by decide +kernel
theorem dX3_corner_26 : decode cX3_corner 26 = .ok (.iload_n 1, 1) := by decide +kernel
theorem dX3_corner_27 : decode cX3_corner 27 = .ok (.iload_n 2, 1) := by decide +kernel
theorem dX3_corner_28 : decode cX3_corner 28 = .ok (.iload_n 3, 1) := by decide +kernel
theorem dX3_corner_29 : decode cX3_corner 29 = .ok (.invokestatic 86, 3) := by decide +kernel
theorem dX3_corner_32 : decode cX3_corner 32 = .ok (.goto 7, 3) := by decide +kernel
theorem dX3_corner_35 : decode cX3_corner 35 = .ok (.aload_n 0, 1) := by decide +kernel
theorem dX3_corner_36 : decode cX3_corner 36 = .ok (.getfield 93, 3) := by decide +kernel
theorem dX3_corner_39 : decode cX3_corner 39 = .ok (.putfield 93, 3) := by decide +kernel
theorem dX3_corner_42 : decode cX3_corner 42 = .ok (.return_, 1) := by decide +kernel
theorem dX3_between_0 : decode cX3_between 0 = .ok (.iload_n 1, 1) := by decide +kernel
theorem dX3_between_1 : decode cX3_between 1 = .ok (.iload_n 2, 1) := by decide +kernel
theorem dX3_between_2 : decode cX3_between 2 = .ok (.if_icmp .gt 21, 3) := by decide +kernel
theorem dX3_between_5 : decode cX3_between 5 = .ok (.iload_n 0, 1) := by decide +kernel
theorem dX3_between_6 : decode cX3_between 6 = .ok (.iload_n 1, 1) := by decide +kernel
theorem dX3_between_7 : decode cX3_between 7 = .ok (.if_icmp .lt 12, 3) := by decide +kernel
theorem dX3_between_10 : decode cX3_between 10 = .ok (.iload_n 0, 1) := by decide +kernel
theorem dX3_between_11 : decode cX3_between 11 = .ok (.iload_n 2, 1) := by decide +kernel
theorem dX3_between_12 : decode cX3_between 12 = .ok (.if_icmp .gt 7, 3) := by decide +kernel
theorem dX3_between_15 : decode cX3_between 15 = .ok (.iconst 1, 1) := by decide +kernel
theorem dX3_between_16 : decode cX3_between 16 = .ok (.goto 22, 3) := by decide +kernel
theorem dX3_between_19 : decode cX3_between 19 = .ok (.iconst 0, 1) := by decide +kernel
theorem dX3_between_20 : decode cX3_between 20 = .ok (.goto 18, 3) := by decide +kernel
theorem dX3_between_23 : decode cX3_between 23 = .ok (.iload_n 0, 1) := by decide +kernel
theorem dX3_between_24 : decode cX3_between 24 = .ok (.iload_n 2, 1) := by decide +kernel
theorem dX3_between_25 : decode cX3_between 25 = .ok (.if_icmp .lt 12, 3) := by decide +kernel
theorem dX3_between_28 : decode cX3_between 28 = .ok (.iload_n 0, 1) := by decide +kernel
theorem dX3_between_29 : decode cX3_between 29 = .ok (.iload_n 1, 1) := by decide +kernel
theorem dX3_between_30 : decode cX3_between 30 = .ok (.if_icmp .gt 7, 3) := by decide +kernel
theorem dX3_between_33 : decode cX3_between 33 = .ok (.iconst 1, 1) := by decide +kernel
theorem dX3_between_34 : decode cX3_between 34 = .ok (.goto 4, 3) := by decide +kernel
theorem dX3_between_37 : decode cX3_between 37 = .ok (.iconst 0, 1) := by decide +kernel
theorem dX3_between_38 : decode cX3_between 38 = .ok (.ireturn, 1) := by decide +kernel
theorem dX3_isIn_0 : decode cX3_isIn 0 = .ok (.iconst 1, 1) := by decide +kernel
theorem dX3_isIn_1 : decode cX3_isIn 1 = .ok (.istore_n 3, 1) := by decide +kernel
theorem dX3_isIn_2 : decode cX3_isIn 2 = .ok (.iconst 0, 1) := by decide +kernel
theorem dX3_isIn_3 : decode cX3_isIn 3 = .ok (.istore 4, 2) := by decide +kernel
theorem dX3_isIn_5 : decode cX3_isIn 5 = .ok (.iload 4, 2) := by decide +kernel
theorem dX3_isIn_7 : decode cX3_isIn 7 = .ok (.iconst 3, 1) := by decide +kernel
theorem dX3_isIn_8 : decode cX3_isIn 8 = .ok (.if_icmp .ge 51, 3) := by decide +kernel
theorem dX3_isIn_11 : decode cX3_isIn 11 = .ok (.iload_n 3, 1) := by decide +kernel
theorem dX3_isIn_12 : decode cX3_isIn 12 = .ok (.ifCond .eq 39, 3) := by decide +kernel
theorem dX3_isIn_15 : decode cX3_isIn 15 = .ok (.aload_n 0, 1) := by decide +kernel
theorem dX3_isIn_16 : decode cX3_isIn 16 = .ok (.getfield 13, 3) := by decide +kernel
theorem dX3_isIn_19 : decode cX3_isIn 19 = .ok (.iload_n 1, 1) := by decide +kernel
theorem dX3_isIn_20 : decode cX3_isIn 20 = .ok (.iaload, 1) := by decide +kernel
theorem dX3_isIn_21 : decode cX3_isIn 21 = .ok (.iload 4, 2) := by decide +kernel
theorem dX3_isIn_23 : decode cX3_isIn 23 = .ok (.invokestatic 62, 3) := by decide +kernel
theorem dX3_isIn_26 : decode cX3_isIn 26 = .ok (.aload_n 0, 1) := by decide +kernel
theorem dX3_isIn_27 : decode cX3_isIn 27 = .ok (.getfield 93, 3) := by decide +kernel
theorem dX3_isIn_30 : decode cX3_isIn 30 = .ok (.iload 4, 2) := by decide +kernel
theorem dX3_isIn_32 : decode cX3_isIn 32 = .ok (.invokestatic 62, 3) := by decide +kernel
theorem dX3_isIn_35 : decode cX3_isIn 35 = .ok (.iload_n 2, 1) := by decide +kernel
theorem dX3_isIn_36 : decode cX3_isIn 36 = .ok (.iload 4, 2) := by decide +kernel
theorem dX3_isIn_38 : decode cX3_isIn 38 = .ok (.invokestatic 62, 3) := by decide +kernel
theorem dX3_isIn_41 : decode cX3_isIn 41 = .ok (.invokestatic 96, 3) := by decide +kernel
theorem dX3_isIn_44 : decode cX3_isIn 44 = .ok (.ifCond .eq 7, 3) := by decide +kernel
theorem dX3_isIn_47 : decode cX3_isIn 47 = .ok (.iconst 1, 1) := by decide +kernel
theorem dX3_isIn_48 : decode cX3_isIn 48 = .ok (.goto 4, 3) := by decide +kernel
theorem dX3_isIn_51 : decode cX3_isIn 51 = .ok (.iconst 0, 1) := by decide +kernel
theorem dX3_isIn_52 : decode cX3_isIn 52 = .ok (.istore_n 3, 1) := by decide +kernel
theorem dX3_isIn_53 : decode cX3_isIn 53 = .ok (.iinc 4 1, 3) := by decide +kernel
theorem dX3_isIn_56 : decode cX3_isIn 56 = .ok (.goto (-51), 3) := by decide +kernel
theorem dX3_isIn_59 : decode cX3_isIn 59 = .ok (.iload_n 3, 1) := by decide +kernel
theorem dX3_isIn_60 : decode cX3_isIn 60 = .ok (.ireturn, 1) := by decide +kernel
theorem dX3_box_0 : decode cX3_box 0 = .ok (.aload_n 0, 1) := by decide +kernel
theorem dX3_box_1 : decode cX3_box 1 = .ok (.iconst 0, 1) := by decide +kernel
theorem dX3_box_2 : decode cX3_box 2 = .ok (.putfield 45, 3) := by decide +kernel
theorem dX3_box_5 : decode cX3_box 5 = .ok (.iload_n 1, 1) := by decide +kernel
theorem dX3_box_6 : decode cX3_box 6 = .ok (.iload_n 2, 1) := by decide +kernel
theorem dX3_box_7 : decode cX3_box 7 = .ok (.iload_n 3, 1) := by decide +kernel
theorem dX3_box_8 : decode cX3_box 8 = .ok (.invokestatic 76, 3) := by decide +kernel
theorem dX3_box_11 : decode cX3_box 11 = .ok (.ifCond .eq 13, 3) := by decide +kernel
theorem dX3_box_14 : decode cX3_box 14 = .ok (.iload 4, 2) := by decide +kernel
theorem dX3_box_16 : decode cX3_box 16 = .ok (.iconst 0, 1) := by decide +kernel
theorem dX3_box_17 : decode cX3_box 17 = .ok (.iconst 4, 1) := by decide +kernel
theorem dX3_box_18 : decode cX3_box 18 = .ok (.invokestatic 48, 3) := by decide +kernel
theorem dX3_box_21 : decode cX3_box 21 = .ok (.ifCond .ne 9, 3) := by decide +kernel
theorem dX3_box_24 : decode cX3_box 24 = .ok (.aload_n 0, 1) := by decide +kernel
theorem dX3_box_25 : decode cX3_box 25 = .ok (.iconst 1, 1) := by decide +kernel
theorem dX3_box_26 : decode cX3_box 26 = .ok (.invokevirtual 79, 3) := by decide +kernel
theorem dX3_box_29 : decode cX3_box 29 = .ok (.ireturn, 1) := by decide +kernel
theorem dX3_box_30 : decode cX3_box 30 = .ok (.aload_n 0, 1) := by decide +kernel
theorem dX3_box_31 : decode cX3_box 31 = .ok (.iconst 0, 1) := by decide +kernel
theorem dX3_box_32 : decode cX3_box 32 = .ok (.putfield 99, 3) := by decide +kernel
theorem dX3_box_35 : decode cX3_box 35 = .ok (.iconst 0, 1) := by decide +kernel
theorem dX3_box_36 : decode cX3_box 36 = .ok (.istore 5, 2) := by decide +kernel
theorem dX3_box_38 : decode cX3_box 38 = .ok (.iload 5, 2) := by decide +kernel
theorem dX3_box_40 : decode cX3_box 40 = .ok (.aload_n 0, 1) := by decide +kernel
theorem dX3_box_41 : decode cX3_box 41 = .ok (.getfield 59, 3) := by decide +kernel
theorem dX3_box_44 : decode cX3_box 44 = .ok (.if_icmp .ge 112, 3) := by decide +kernel
theorem dX3_box_47 : decode cX3_box 47 = .ok (.aload_n 0, 1) := by decide +kernel
theorem dX3_box_48 : decode cX3_box 48 = .ok (.iload 5, 2) := by decide +kernel
theorem dX3_box_50 : decode cX3_box 50 = .ok (.iload_n 1, 1) := by decide +kernel
theorem dX3_box_51 : decode cX3_box 51 = .ok (.iload_n 2, 1) := by decide +kernel
theorem dX3_box_52 : decode cX3_box 52 = .ok (.iload_n 3, 1) := by decide +kernel
theorem dX3_box_53 : decode cX3_box 53 = .ok (.invokestatic 86, 3) := by decide +kernel
theorem dX3_box_56 : decode cX3_box 56 = .ok (.invokevirtual 102, 3) := by decide +kernel
theorem dX3_box_59 : decode cX3_box 59 = .ok (.ifCond .eq 91, 3) := by decide +kernel
theorem dX3_box_62 : decode cX3_box 62 = .ok (.aload_n 0, 1) := by decide +kernel
theorem dX3_box_63 : decode cX3_box 63 = .ok (.getfield 19, 3) := by decide +kernel
theorem dX3_box_66 : decode cX3_box 66 = .ok (.iload 5, 2) := by decide +kernel
theorem dX3_box_68 : decode cX3_box 68 = .ok (.iaload, 1) := by decide +kernel
theorem dX3_box_69 : decode cX3_box 69 = .ok (.iload 4, 2) := by decide +kernel
theorem dX3_box_71 : decode cX3_box 71 = .ok (.if_icmp .gt 79, 3) := by decide +kernel
theorem dX3_box_74 : decode cX3_box 74 = .ok (.aload_n 0, 1) := by decide +kernel
theorem dX3_box_75 : decode cX3_box 75 = .ok (.getfield 99, 3) := by decide +kernel
theorem dX3_box_78 : decode cX3_box 78 = .ok (.istore 6, 2) := by decide +kernel
theorem dX3_box_80 : decode cX3_box 80 = .ok (.iload 6, 2) := by decide +kernel
theorem dX3_box_82 : decode cX3_box 82 = .ok (.ifCond .le 44, 3) := by decide +kernel
theorem dX3_box_85 : decode cX3_box 85 = .ok (.aload_n 0, 1) := by decide +kernel
theorem dX3_box_86 : decode cX3_box 86 = .ok (.getfield 38, 3) := by decide +kernel
theorem dX3_box_89 : decode cX3_box 89 = .ok (.iload 6, 2) := by decide +kernel
theorem dX3_box_91 : decode cX3_box 91 = .ok (.iconst 1, 1) := by decide +kernel
theorem dX3_box_92 : decode cX3_box 92 = .ok (.isub, 1) := by decide +kernel
theorem dX3_box_93 : decode cX3_box 93 = .ok (.iaload, 1) := by decide +kernel
theorem dX3_box_94 : decode cX3_box 94 = .ok (.aload_n 0, 1) := by decide +kernel
theorem dX3_box_95 : decode cX3_box 95 = .ok (.getfield 7, 3) := by decide +kernel
theorem dX3_box_98 : decode cX3_box 98 = .ok (.iload 5, 2) := by decide +kernel
theorem dX3_box_100 : decode cX3_box 100 = .ok (.iaload, 1) := by decide +kernel
theorem dX3_box_101 : decode cX3_box 101 = .ok (.if_icmp .le 25, 3) := by decide +kernel
theorem dX3_box_104 : decode cX3_box 104 = .ok (.aload_n 0, 1) := by decide +kernel
theorem dX3_box_105 : decode cX3_box 105 = .ok (.getfield 38, 3) := by decide +kernel
theorem dX3_box_108 : decode cX3_box 108 = .ok (.iload 6, 2) := by decide +kernel
theorem dX3_box_110 : decode cX3_box 110 = .ok (.aload_n 0, 1) := by decide +kernel
theorem dX3_box_111 : decode cX3_box 111 = .ok (.getfield 38, 3) := by decide +kernel
theorem dX3_box_114 : decode cX3_box 114 = .ok (.iload 6, 2) := by decide +kernel
theorem dX3_box_116 : decode cX3_box 116 = .ok (.iconst 1, 1) := by decide +kernel
theorem dX3_box_117 : decode cX3_box 117 = .ok (.isub, 1) := by decide +kernel
theorem dX3_box_118 : decode cX3_box 118 = .ok (.iaload, 1) := by decide +kernel
theorem dX3_box_119 : decode cX3_box 119 = .ok (.iastore, 1) := by decide +kernel
theorem dX3_box_120 : decode cX3_box 120 = .ok (.iinc 6 (-1), 3) := by decide +kernel
theorem dX3_box_123 : decode cX3_box 123 = .ok (.goto (-43), 3) := by decide +kernel
theorem dX3_box_126 : decode cX3_box 126 = .ok (.aload_n 0, 1) := by decide +kernel
theorem dX3_box_127 : decode cX3_box 127 = .ok (.getfield 38, 3) := by decide +kernel
theorem dX3_box_130 : decode cX3_box 130 = .ok (.iload 6, 2) := by decide +kernel
theorem dX3_box_132 : decode cX3_box 132 = .ok (.aload_n 0, 1) := by decide +kernel
theorem dX3_box_133 : decode cX3_box 133 = .ok (.getfield 7, 3) := by decide +kernel
theorem dX3_box_136 : decode cX3_box 136 = .ok (.iload 5, 2) := by decide +kernel
theorem dX3_box_138 : decode cX3_box 138 = .ok (.iaload, 1) := by decide +kernel
theorem dX3_box_139 : decode cX3_box 139 = .ok (.iastore, 1) := by decide +kernel
theorem dX3_box_140 : decode cX3_box 140 = .ok (.aload_n 0, 1) := by decide +kernel
theorem dX3_box_141 : decode cX3_box 141 = .ok (.dup, 1) := by decide +kernel
theorem dX3_box_142 : decode cX3_box 142 = .ok (.getfield 99, 3) := by decide +kernel
theorem dX3_box_145 : decode cX3_box 145 = .ok (.iconst 1, 1) := by decide +kernel
theorem dX3_box_146 : decode cX3_box 146 = .ok (.iadd, 1) := by decide +kernel
theorem dX3_box_147 : decode cX3_box 147 = .ok (.putfield 99, 3) := by decide +kernel
theorem dX3_box_150 : decode cX3_box 150 = .ok (.iinc 5 1, 3) := by decide +kernel
theorem dX3_box_153 : decode cX3_box 153 = .ok (.goto (-115), 3) := by decide +kernel
theorem dX3_box_156 : decode cX3_box 156 = .ok (.aload_n 0, 1) := by decide +kernel
theorem dX3_box_157 : decode cX3_box 157 = .ok (.getfield 99, 3) := by decide +kernel
theorem dX3_box_160 : decode cX3_box 160 = .ok (.ireturn, 1) := by decide +kernel
theorem dX3_next_0 : decode cX3_next 0 = .ok (.aload_n 0, 1) := by decide +kernel
theorem dX3_next_1 : decode cX3_next 1 = .ok (.iconst 0, 1) := by decide +kernel
theorem dX3_next_2 : decode cX3_next 2 = .ok (.putfield 45, 3) := by decide +kernel
theorem dX3_next_5 : decode cX3_next 5 = .ok (.aload_n 0, 1) := by decide +kernel
theorem dX3_next_6 : decode cX3_next 6 = .ok (.getfield 99, 3) := by decide +kernel
theorem dX3_next_9 : decode cX3_next 9 = .ok (.ifCond .ne 9, 3) := by decide +kernel
theorem dX3_next_12 : decode cX3_next 12 = .ok (.aload_n 0, 1) := by decide +kernel
theorem dX3_next_13 : decode cX3_next 13 = .ok (.iconst 1, 1) := by decide +kernel
theorem dX3_next_14 : decode cX3_next 14 = .ok (.invokevirtual 79, 3) := by decide +kernel
theorem dX3_next_17 : decode cX3_next 17 = .ok (.ireturn, 1) := by decide +kernel
theorem dX3_next_18 : decode cX3_next 18 = .ok (.aload_n 0, 1) := by decide +kernel
theorem dX3_next_19 : decode cX3_next 19 = .ok (.getfield 38, 3) := by decide +kernel
theorem dX3_next_22 : decode cX3_next 22 = .ok (.iconst 0, 1) := by decide +kernel
theorem dX3_next_23 : decode cX3_next 23 = .ok (.iaload, 1) := by decide +kernel
theorem dX3_next_24 : decode cX3_next 24 = .ok (.istore_n 1, 1) := by decide +kernel
theorem dX3_next_25 : decode cX3_next 25 = .ok (.aload_n 0, 1) := by decide +kernel
theorem dX3_next_26 : decode cX3_next 26 = .ok (.dup, 1) := by decide +kernel
theorem dX3_next_27 : decode cX3_next 27 = .ok (.getfield 99, 3) := by decide +kernel
theorem dX3_next_30 : decode cX3_next 30 = .ok (.iconst 1, 1) := by decide +kernel
theorem dX3_next_31 : decode cX3_next 31 = .ok (.isub, 1) := by decide +kernel
theorem dX3_next_32 : decode cX3_next 32 = .ok (.putfield 99, 3) := by decide +kernel
theorem dX3_next_35 : decode cX3_next 35 = .ok (.iconst 0, 1) := by decide +kernel
theorem dX3_next_36 : decode cX3_next 36 = .ok (.istore_n 2, 1) := by decide +kernel
theorem dX3_next_37 : decode cX3_next 37 = .ok (.iload_n 2, 1) := by decide +kernel
theorem dX3_next_38 : decode cX3_next 38 = .ok (.aload_n 0, 1) := by decide +kernel
theorem dX3_next_39 : decode cX3_next 39 = .ok (.getfield 99, 3) := by decide +kernel
theorem dX3_next_42 : decode cX3_next 42 = .ok (.if_icmp .ge 23, 3) := by decide +kernel
theorem dX3_next_45 : decode cX3_next 45 = .ok (.aload_n 0, 1) := by decide +kernel
theorem dX3_next_46 : decode cX3_next 46 = .ok (.getfield 38, 3) := by decide +kernel
theorem dX3_next_49 : decode cX3_next 49 = .ok (.iload_n 2, 1) := by decide +kernel
theorem dX3_next_50 : decode cX3_next 50 = .ok (.aload_n 0, 1) := by decide +kernel
theorem dX3_next_51 : decode cX3_next 51 = .ok (.getfield 38, 3) := by decide +kernel
theorem dX3_next_54 : decode cX3_next 54 = .ok (.iload_n 2, 1) := by decide +kernel
theorem dX3_next_55 : decode cX3_next 55 = .ok (.iconst 1, 1) := by decide +kernel
theorem dX3_next_56 : decode cX3_next 56 = .ok (.iadd, 1) := by decide +kernel
theorem dX3_next_57 : decode cX3_next 57 = .ok (.iaload, 1) := by decide +kernel
theorem dX3_next_58 : decode cX3_next 58 = .ok (.iastore, 1) := by decide +kernel
theorem dX3_next_59 : decode cX3_next 59 = .ok (.iinc 2 1, 3) := by decide +kernel
theorem dX3_next_62 : decode cX3_next 62 = .ok (.goto (-25), 3) := by decide +kernel
theorem dX3_next_65 : decode cX3_next 65 = .ok (.iload_n 1, 1) := by decide +kernel
theorem dX3_next_66 : decode cX3_next 66 = .ok (.ireturn, 1) := by decide +kernel
theorem dX3_count_0 : decode cX3_count 0 = .ok (.aload_n 0, 1) := by decide +kernel
theorem dX3_count_1 : decode cX3_count 1 = .ok (.iconst 0, 1) := by decide +kernel
theorem dX3_count_2 : decode cX3_count 2 = .ok (.putfield 45, 3) := by decide +kernel
theorem dX3_count_5 : decode cX3_count 5 = .ok (.iload_n 1, 1) := by decide +kernel
theorem dX3_count_6 : decode cX3_count 6 = .ok (.iload_n 2, 1) := by decide +kernel
theorem dX3_count_7 : decode cX3_count 7 = .ok (.iload_n 3, 1) := by decide +kernel
theorem dX3_count_8 : decode cX3_count 8 = .ok (.invokestatic 76, 3) := by decide +kernel
theorem dX3_count_11 : decode cX3_count 11 = .ok (.ifCond .ne 9, 3) := by decide +kernel
theorem dX3_count_14 : decode cX3_count 14 = .ok (.aload_n 0, 1) := by decide +kernel
theorem dX3_count_15 : decode cX3_count 15 = .ok (.iconst 1, 1) := by decide +kernel
theorem dX3_count_16 : decode cX3_count 16 = .ok (.invokevirtual 79, 3) := by decide +kernel
theorem dX3_count_19 : decode cX3_count 19 = .ok (.ireturn, 1) := by decide +kernel
theorem dX3_count_20 : decode cX3_count 20 = .ok (.iconst 0, 1) := by decide +kernel
theorem dX3_count_21 : decode cX3_count 21 = .ok (.istore 4, 2) := by decide +kernel
theorem dX3_count_23 : decode cX3_count 23 = .ok (.iconst 0, 1) := by decide +kernel
theorem dX3_count_24 : decode cX3_count 24 = .ok (.istore 5, 2) := by decide +kernel
theorem dX3_count_26 : decode cX3_count 26 = .ok (.iload 5, 2) := by decide +kernel
theorem dX3_count_28 : decode cX3_count 28 = .ok (.aload_n 0, 1) := by decide +kernel
theorem dX3_count_29 : decode cX3_count 29 = .ok (.getfield 59, 3) := by decide +kernel
theorem dX3_count_32 : decode cX3_count 32 = .ok (.if_icmp .ge 35, 3) := by decide +kernel
theorem dX3_count_35 : decode cX3_count 35 = .ok (.aload_n 0, 1) := by decide +kernel
theorem dX3_count_36 : decode cX3_count 36 = .ok (.iload 5, 2) := by decide +kernel
theorem dX3_count_38 : decode cX3_count 38 = .ok (.iload_n 1, 1) := by decide +kernel
theorem dX3_count_39 : decode cX3_count 39 = .ok (.iload_n 2, 1) := by decide +kernel
theorem dX3_count_40 : decode cX3_count 40 = .ok (.iload_n 3, 1) := by decide +kernel
theorem dX3_count_41 : decode cX3_count 41 = .ok (.invokestatic 86, 3) := by decide +kernel
theorem dX3_count_44 : decode cX3_count 44 = .ok (.invokevirtual 102, 3) := by decide +kernel
theorem dX3_count_47 : decode cX3_count 47 = .ok (.ifCond .eq 10, 3) := by decide +kernel
theorem dX3_count_50 : decode cX3_count 50 = .ok (.iload 4, 2) := by decide +kernel
theorem dX3_count_52 : decode cX3_count 52 = .ok (.iconst 1, 1) := by decide +kernel
theorem dX3_count_53 : decode cX3_count 53 = .ok (.iadd, 1) := by decide +kernel
theorem dX3_count_54 : decode cX3_count 54 = .ok (.goto 5, 3) := by decide +kernel
theorem dX3_count_57 : decode cX3_count 57 = .ok (.iload 4, 2) := by decide +kernel
theorem dX3_count_59 : decode cX3_count 59 = .ok (.istore 4, 2) := by decide +kernel
theorem dX3_count_61 : decode cX3_count 61 = .ok (.iinc 5 1, 3) := by decide +kernel
theorem dX3_count_64 : decode cX3_count 64 = .ok (.goto (-38), 3) := by decide +kernel
theorem dX3_count_67 : decode cX3_count 67 = .ok (.iload 4, 2) := by decide +kernel
theorem dX3_count_69 : decode cX3_count 69 = .ok (.ireturn, 1) := by decide +kernel
theorem dX3_distance_0 : decode cX3_distance 0 = .ok (.iconst 0, 1) := by decide +kernel
theorem dX3_distance_1 : decode cX3_distance 1 = .ok (.istore_n 2, 1) := by decide +kernel
theorem dX3_distance_2 : decode cX3_distance 2 = .ok (.iconst 0, 1) := by decide +kernel
theorem dX3_distance_3 : decode cX3_distance 3 = .ok (.istore_n 3, 1) := by decide +kernel
theorem dX3_distance_4 : decode cX3_distance 4 = .ok (.iload_n 3, 1) := by decide +kernel
theorem dX3_distance_5 : decode cX3_distance 5 = .ok (.iconst 3, 1) := by decide +kernel
theorem dX3_distance_6 : decode cX3_distance 6 = .ok (.if_icmp .ge 30, 3) := by decide +kernel
theorem dX3_distance_9 : decode cX3_distance 9 = .ok (.iload_n 0, 1) := by decide +kernel
theorem dX3_distance_10 : decode cX3_distance 10 = .ok (.iload_n 3, 1) := by decide +kernel
theorem dX3_distance_11 : decode cX3_distance 11 = .ok (.invokestatic 62, 3) := by decide +kernel
theorem dX3_distance_14 : decode cX3_distance 14 = .ok (.iload_n 1, 1) := by decide +kernel
theorem dX3_distance_15 : decode cX3_distance 15 = .ok (.iload_n 3, 1) := by decide +kernel
theorem dX3_distance_16 : decode cX3_distance 16 = .ok (.invokestatic 62, 3) := by decide +kernel
theorem dX3_distance_19 : decode cX3_distance 19 = .ok (.isub, 1) := by decide +kernel
theorem dX3_distance_20 : decode cX3_distance 20 = .ok (.istore 4, 2) := by decide +kernel
theorem dX3_distance_22 : decode cX3_distance 22 = .ok (.iload_n 2, 1) := by decide +kernel
theorem dX3_distance_23 : decode cX3_distance 23 = .ok (.iload 4, 2) := by decide +kernel
theorem dX3_distance_25 : decode cX3_distance 25 = .ok (.iload 4, 2) := by decide +kernel
theorem dX3_distance_27 : decode cX3_distance 27 = .ok (.imul, 1) := by decide +kernel
theorem dX3_distance_28 : decode cX3_distance 28 = .ok (.iadd, 1) := by decide +kernel
theorem dX3_distance_29 : decode cX3_distance 29 = .ok (.istore_n 2, 1) := by decide +kernel
theorem dX3_distance_30 : decode cX3_distance 30 = .ok (.iinc 3 1, 3) := by decide +kernel
theorem dX3_distance_33 : decode cX3_distance 33 = .ok (.goto (-29), 3) := by decide +kernel
theorem dX3_distance_36 : decode cX3_distance 36 = .ok (.iload_n 2, 1) := by decide +kernel
theorem dX3_distance_37 : decode cX3_distance 37 = .ok (.ireturn, 1) := by decide +kernel
theorem dX3_nearest_0 : decode cX3_nearest 0 = .ok (.aload_n 0, 1) := by decide +kernel
theorem dX3_nearest_1 : decode cX3_nearest 1 = .ok (.iconst 0, 1) := by decide +kernel
theorem dX3_nearest_2 : decode cX3_nearest 2 = .ok (.putfield 45, 3) := by decide +kernel
theorem dX3_nearest_5 : decode cX3_nearest 5 = .ok (.iload_n 1, 1) := by decide +kernel
theorem dX3_nearest_6 : decode cX3_nearest 6 = .ok (.iload_n 2, 1) := by decide +kernel
theorem dX3_nearest_7 : decode cX3_nearest 7 = .ok (.iload_n 3, 1) := by decide +kernel
theorem dX3_nearest_8 : decode cX3_nearest 8 = .ok (.invokestatic 76, 3) := by decide +kernel
theorem dX3_nearest_11 : decode cX3_nearest 11 = .ok (.ifCond .eq 9, 3) := by decide +kernel
theorem dX3_nearest_14 : decode cX3_nearest 14 = .ok (.iload 4, 2) := by decide +kernel
theorem dX3_nearest_16 : decode cX3_nearest 16 = .ok (.iconst 1, 1) := by decide +kernel
theorem dX3_nearest_17 : decode cX3_nearest 17 = .ok (.if_icmp .ge 9, 3) := by decide +kernel
theorem dX3_nearest_20 : decode cX3_nearest 20 = .ok (.aload_n 0, 1) := by decide +kernel
theorem dX3_nearest_21 : decode cX3_nearest 21 = .ok (.iconst 1, 1) := by decide +kernel
theorem dX3_nearest_22 : decode cX3_nearest 22 = .ok (.invokevirtual 79, 3) := by decide +kernel
theorem dX3_nearest_25 : decode cX3_nearest 25 = .ok (.ireturn, 1) := by decide +kernel
theorem dX3_nearest_26 : decode cX3_nearest 26 = .ok (.iload 4, 2) := by decide +kernel
theorem dX3_nearest_28 : decode cX3_nearest 28 = .ok (.aload_n 0, 1) := by decide +kernel
theorem dX3_nearest_29 : decode cX3_nearest 29 = .ok (.getfield 59, 3) := by decide +kernel
theorem dX3_nearest_32 : decode cX3_nearest 32 = .ok (.if_icmp .le 9, 3) := by decide +kernel
theorem dX3_nearest_35 : decode cX3_nearest 35 = .ok (.aload_n 0, 1) := by decide +kernel
theorem dX3_nearest_36 : decode cX3_nearest 36 = .ok (.iconst 2, 1) := by decide +kernel
theorem dX3_nearest_37 : decode cX3_nearest 37 = .ok (.invokevirtual 79, 3) := by decide +kernel
theorem dX3_nearest_40 : decode cX3_nearest 40 = .ok (.ireturn, 1) := by decide +kernel
theorem dX3_nearest_41 : decode cX3_nearest 41 = .ok (.iload_n 1, 1) := by decide +kernel
theorem dX3_nearest_42 : decode cX3_nearest 42 = .ok (.iload_n 2, 1) := by decide +kernel
theorem dX3_nearest_43 : decode cX3_nearest 43 = .ok (.iload_n 3, 1) := by decide +kernel
theorem dX3_nearest_44 : decode cX3_nearest 44 = .ok (.invokestatic 86, 3) := by decide +kernel
theorem dX3_nearest_47 : decode cX3_nearest 47 = .ok (.istore 5, 2) := by decide +kernel
theorem dX3_nearest_49 : decode cX3_nearest 49 = .ok (.iconst 0, 1) := by decide +kernel
theorem dX3_nearest_50 : decode cX3_nearest 50 = .ok (.istore 6, 2) := by decide +kernel
theorem dX3_nearest_52 : decode cX3_nearest 52 = .ok (.iconst 0, 1) := by decide +kernel
theorem dX3_nearest_53 : decode cX3_nearest 53 = .ok (.istore 7, 2) := by decide +kernel
theorem dX3_nearest_55 : decode cX3_nearest 55 = .ok (.iload 7, 2) := by decide +kernel
theorem dX3_nearest_57 : decode cX3_nearest 57 = .ok (.aload_n 0, 1) := by decide +kernel
theorem dX3_nearest_58 : decode cX3_nearest 58 = .ok (.getfield 59, 3) := by decide +kernel
theorem dX3_nearest_61 : decode cX3_nearest 61 = .ok (.if_icmp .ge 118, 3) := by decide +kernel
theorem dX3_nearest_64 : decode cX3_nearest 64 = .ok (.iconst 0, 1) := by decide +kernel
theorem dX3_nearest_65 : decode cX3_nearest 65 = .ok (.istore 8, 2) := by decide +kernel
theorem dX3_nearest_67 : decode cX3_nearest 67 = .ok (.iconst 0, 1) := by decide +kernel
theorem dX3_nearest_68 : decode cX3_nearest 68 = .ok (.istore 9, 2) := by decide +kernel
theorem dX3_nearest_70 : decode cX3_nearest 70 = .ok (.iload 9, 2) := by decide +kernel
theorem dX3_nearest_72 : decode cX3_nearest 72 = .ok (.aload_n 0, 1) := by decide +kernel
theorem dX3_nearest_73 : decode cX3_nearest 73 = .ok (.getfield 59, 3) := by decide +kernel
theorem dX3_nearest_76 : decode cX3_nearest 76 = .ok (.if_icmp .ge 74, 3) := by decide +kernel
theorem dX3_nearest_79 : decode cX3_nearest 79 = .ok (.aload_n 0, 1) := by decide +kernel
theorem dX3_nearest_80 : decode cX3_nearest 80 = .ok (.getfield 13, 3) := by decide +kernel
theorem dX3_nearest_83 : decode cX3_nearest 83 = .ok (.iload 9, 2) := by decide +kernel
theorem dX3_nearest_85 : decode cX3_nearest 85 = .ok (.iaload, 1) := by decide +kernel
theorem dX3_nearest_86 : decode cX3_nearest 86 = .ok (.iload 5, 2) := by decide +kernel
theorem dX3_nearest_88 : decode cX3_nearest 88 = .ok (.invokestatic 106, 3) := by decide +kernel
theorem dX3_nearest_91 : decode cX3_nearest 91 = .ok (.aload_n 0, 1) := by decide +kernel
theorem dX3_nearest_92 : decode cX3_nearest 92 = .ok (.getfield 13, 3) := by decide +kernel
theorem dX3_nearest_95 : decode cX3_nearest 95 = .ok (.iload 7, 2) := by decide +kernel
theorem dX3_nearest_97 : decode cX3_nearest 97 = .ok (.iaload, 1) := by decide +kernel
theorem dX3_nearest_98 : decode cX3_nearest 98 = .ok (.iload 5, 2) := by decide +kernel
theorem dX3_nearest_100 : decode cX3_nearest 100 = .ok (.invokestatic 106, 3) := by decide +kernel
theorem dX3_nearest_103 : decode cX3_nearest 103 = .ok (.isub, 1) := by decide +kernel
theorem dX3_nearest_104 : decode cX3_nearest 104 = .ok (.istore 10, 2) := by decide +kernel
theorem dX3_nearest_106 : decode cX3_nearest 106 = .ok (.iload 10, 2) := by decide +kernel
theorem dX3_nearest_108 : decode cX3_nearest 108 = .ok (.ifCond .lt 25, 3) := by decide +kernel
theorem dX3_nearest_111 : decode cX3_nearest 111 = .ok (.iload 10, 2) := by decide +kernel
theorem dX3_nearest_113 : decode cX3_nearest 113 = .ok (.ifCond .ne 27, 3) := by decide +kernel
theorem dX3_nearest_116 : decode cX3_nearest 116 = .ok (.aload_n 0, 1) := by decide +kernel
theorem dX3_nearest_117 : decode cX3_nearest 117 = .ok (.getfield 7, 3) := by decide +kernel
theorem dX3_nearest_120 : decode cX3_nearest 120 = .ok (.iload 9, 2) := by decide +kernel
theorem dX3_nearest_122 : decode cX3_nearest 122 = .ok (.iaload, 1) := by decide +kernel
theorem dX3_nearest_123 : decode cX3_nearest 123 = .ok (.aload_n 0, 1) := by decide +kernel
theorem dX3_nearest_124 : decode cX3_nearest 124 = .ok (.getfield 7, 3) := by decide +kernel
theorem dX3_nearest_127 : decode cX3_nearest 127 = .ok (.iload 7, 2) := by decide +kernel
theorem dX3_nearest_129 : decode cX3_nearest 129 = .ok (.iaload, 1) := by decide +kernel
theorem dX3_nearest_130 : decode cX3_nearest 130 = .ok (.if_icmp .ge 10, 3) := by decide +kernel
theorem dX3_nearest_133 : decode cX3_nearest 133 = .ok (.iload 8, 2) := by decide +kernel
theorem dX3_nearest_135 : decode cX3_nearest 135 = .ok (.iconst 1, 1) := by decide +kernel
theorem dX3_nearest_136 : decode cX3_nearest 136 = .ok (.iadd, 1) := by decide +kernel
theorem dX3_nearest_137 : decode cX3_nearest 137 = .ok (.goto 5, 3) := by decide +kernel
theorem dX3_nearest_140 : decode cX3_nearest 140 = .ok (.iload 8, 2) := by decide +kernel
theorem dX3_nearest_142 : decode cX3_nearest 142 = .ok (.istore 8, 2) := by decide +kernel
theorem dX3_nearest_144 : decode cX3_nearest 144 = .ok (.iinc 9 1, 3) := by decide +kernel
theorem dX3_nearest_147 : decode cX3_nearest 147 = .ok (.goto (-77), 3) := by decide +kernel
theorem dX3_nearest_150 : decode cX3_nearest 150 = .ok (.iload 8, 2) := by decide +kernel
theorem dX3_nearest_152 : decode cX3_nearest 152 = .ok (.iload 4, 2) := by decide +kernel
theorem dX3_nearest_154 : decode cX3_nearest 154 = .ok (.iconst 1, 1) := by decide +kernel
theorem dX3_nearest_155 : decode cX3_nearest 155 = .ok (.isub, 1) := by decide +kernel
theorem dX3_nearest_156 : decode cX3_nearest 156 = .ok (.if_icmp .ne 13, 3) := by decide +kernel
theorem dX3_nearest_159 : decode cX3_nearest 159 = .ok (.aload_n 0, 1) := by decide +kernel
theorem dX3_nearest_160 : decode cX3_nearest 160 = .ok (.getfield 7, 3) := by decide +kernel
theorem dX3_nearest_163 : decode cX3_nearest 163 = .ok (.iload 7, 2) := by decide +kernel
theorem dX3_nearest_165 : decode cX3_nearest 165 = .ok (.iaload, 1) := by decide +kernel
theorem dX3_nearest_166 : decode cX3_nearest 166 = .ok (.goto 5, 3) := by decide +kernel
theorem dX3_nearest_169 : decode cX3_nearest 169 = .ok (.iload 6, 2) := by decide +kernel
theorem dX3_nearest_171 : decode cX3_nearest 171 = .ok (.istore 6, 2) := by decide +kernel
theorem dX3_nearest_173 : decode cX3_nearest 173 = .ok (.iinc 7 1, 3) := by decide +kernel
theorem dX3_nearest_176 : decode cX3_nearest 176 = .ok (.goto (-121), 3) := by decide +kernel
theorem dX3_nearest_179 : decode cX3_nearest 179 = .ok (.iload 6, 2) := by decide +kernel
theorem dX3_nearest_181 : decode cX3_nearest 181 = .ok (.ireturn, 1) := by decide +kernel
theorem dX3_kept_0 : decode cX3_kept 0 = .ok (.aload_n 0, 1) := by decide +kernel
theorem dX3_kept_1 : decode cX3_kept 1 = .ok (.iconst 0, 1) := by decide +kernel
theorem dX3_kept_2 : decode cX3_kept 2 = .ok (.putfield 45, 3) := by decide +kernel
theorem dX3_kept_5 : decode cX3_kept 5 = .ok (.iload_n 1, 1) := by decide +kernel
theorem dX3_kept_6 : decode cX3_kept 6 = .ok (.iconst 0, 1) := by decide +kernel
theorem dX3_kept_7 : decode cX3_kept 7 = .ok (.iconst 4, 1) := by decide +kernel
theorem dX3_kept_8 : decode cX3_kept 8 = .ok (.invokestatic 48, 3) := by decide +kernel
theorem dX3_kept_11 : decode cX3_kept 11 = .ok (.ifCond .eq 9, 3) := by decide +kernel
theorem dX3_kept_14 : decode cX3_kept 14 = .ok (.iconst 1, 1) := by decide +kernel
theorem dX3_kept_15 : decode cX3_kept 15 = .ok (.iload_n 1, 1) := by decide +kernel
theorem dX3_kept_16 : decode cX3_kept 16 = .ok (.ishl, 1) := by decide +kernel
theorem dX3_kept_17 : decode cX3_kept 17 = .ok (.goto 4, 3) := by decide +kernel
theorem dX3_kept_20 : decode cX3_kept 20 = .ok (.iconst 0, 1) := by decide +kernel
theorem dX3_kept_21 : decode cX3_kept 21 = .ok (.istore 6, 2) := by decide +kernel
theorem dX3_kept_23 : decode cX3_kept 23 = .ok (.iload 6, 2) := by decide +kernel
theorem dX3_kept_25 : decode cX3_kept 25 = .ok (.ifCond .eq 40, 3) := by decide +kernel
theorem dX3_kept_28 : decode cX3_kept 28 = .ok (.iload_n 2, 1) := by decide +kernel
theorem dX3_kept_29 : decode cX3_kept 29 = .ok (.iconst 0, 1) := by decide +kernel
theorem dX3_kept_30 : decode cX3_kept 30 = .ok (.iload 6, 2) := by decide +kernel
theorem dX3_kept_32 : decode cX3_kept 32 = .ok (.iconst 1, 1) := by decide +kernel
theorem dX3_kept_33 : decode cX3_kept 33 = .ok (.isub, 1) := by decide +kernel
theorem dX3_kept_34 : decode cX3_kept 34 = .ok (.invokestatic 48, 3) := by decide +kernel
theorem dX3_kept_37 : decode cX3_kept 37 = .ok (.ifCond .eq 28, 3) := by decide +kernel
theorem dX3_kept_40 : decode cX3_kept 40 = .ok (.iload_n 3, 1) := by decide +kernel
theorem dX3_kept_41 : decode cX3_kept 41 = .ok (.iconst 0, 1) := by decide +kernel
theorem dX3_kept_42 : decode cX3_kept 42 = .ok (.iload 6, 2) := by decide +kernel
theorem dX3_kept_44 : decode cX3_kept 44 = .ok (.iconst 1, 1) := by decide +kernel
theorem dX3_kept_45 : decode cX3_kept 45 = .ok (.isub, 1) := by decide +kernel
theorem dX3_kept_46 : decode cX3_kept 46 = .ok (.invokestatic 48, 3) := by decide +kernel
theorem dX3_kept_49 : decode cX3_kept 49 = .ok (.ifCond .eq 16, 3) := by decide +kernel
theorem dX3_kept_52 : decode cX3_kept 52 = .ok (.iload 4, 2) := by decide +kernel
theorem dX3_kept_54 : decode cX3_kept 54 = .ok (.iconst 0, 1) := by decide +kernel
theorem dX3_kept_55 : decode cX3_kept 55 = .ok (.iload 6, 2) := by decide +kernel
theorem dX3_kept_57 : decode cX3_kept 57 = .ok (.iconst 1, 1) := by decide +kernel
theorem dX3_kept_58 : decode cX3_kept 58 = .ok (.isub, 1) := by decide +kernel
theorem dX3_kept_59 : decode cX3_kept 59 = .ok (.invokestatic 48, 3) := by decide +kernel
theorem dX3_kept_62 : decode cX3_kept 62 = .ok (.ifCond .ne 9, 3) := by decide +kernel
theorem dX3_kept_65 : decode cX3_kept 65 = .ok (.aload_n 0, 1) := by decide +kernel
theorem dX3_kept_66 : decode cX3_kept 66 = .ok (.iconst 1, 1) := by decide +kernel
theorem dX3_kept_67 : decode cX3_kept 67 = .ok (.invokevirtual 79, 3) := by decide +kernel
theorem dX3_kept_70 : decode cX3_kept 70 = .ok (.ireturn, 1) := by decide +kernel
theorem dX3_kept_71 : decode cX3_kept 71 = .ok (.iload_n 2, 1) := by decide +kernel
theorem dX3_kept_72 : decode cX3_kept 72 = .ok (.iconst 4, 1) := by decide +kernel
theorem dX3_kept_73 : decode cX3_kept 73 = .ok (.iload_n 1, 1) := by decide +kernel
theorem dX3_kept_74 : decode cX3_kept 74 = .ok (.isub, 1) := by decide +kernel
theorem dX3_kept_75 : decode cX3_kept 75 = .ok (.ishl, 1) := by decide +kernel
theorem dX3_kept_76 : decode cX3_kept 76 = .ok (.iload_n 3, 1) := by decide +kernel
theorem dX3_kept_77 : decode cX3_kept 77 = .ok (.iconst 4, 1) := by decide +kernel
theorem dX3_kept_78 : decode cX3_kept 78 = .ok (.iload_n 1, 1) := by decide +kernel
theorem dX3_kept_79 : decode cX3_kept 79 = .ok (.isub, 1) := by decide +kernel
theorem dX3_kept_80 : decode cX3_kept 80 = .ok (.ishl, 1) := by decide +kernel
theorem dX3_kept_81 : decode cX3_kept 81 = .ok (.iload 4, 2) := by decide +kernel
theorem dX3_kept_83 : decode cX3_kept 83 = .ok (.iconst 4, 1) := by decide +kernel
theorem dX3_kept_84 : decode cX3_kept 84 = .ok (.iload_n 1, 1) := by decide +kernel
theorem dX3_kept_85 : decode cX3_kept 85 = .ok (.isub, 1) := by decide +kernel
theorem dX3_kept_86 : decode cX3_kept 86 = .ok (.ishl, 1) := by decide +kernel
theorem dX3_kept_87 : decode cX3_kept 87 = .ok (.invokestatic 86, 3) := by decide +kernel
theorem dX3_kept_90 : decode cX3_kept 90 = .ok (.istore 7, 2) := by decide +kernel
theorem dX3_kept_92 : decode cX3_kept 92 = .ok (.iconst 0, 1) := by decide +kernel
theorem dX3_kept_93 : decode cX3_kept 93 = .ok (.istore 8, 2) := by decide +kernel
theorem dX3_kept_95 : decode cX3_kept 95 = .ok (.iload 8, 2) := by decide +kernel
theorem dX3_kept_97 : decode cX3_kept 97 = .ok (.aload_n 0, 1) := by decide +kernel
theorem dX3_kept_98 : decode cX3_kept 98 = .ok (.getfield 59, 3) := by decide +kernel
theorem dX3_kept_101 : decode cX3_kept 101 = .ok (.if_icmp .ge 134, 3) := by decide +kernel
theorem dX3_kept_104 : decode cX3_kept 104 = .ok (.iconst 0, 1) := by decide +kernel
theorem dX3_kept_105 : decode cX3_kept 105 = .ok (.istore 9, 2) := by decide +kernel
theorem dX3_kept_107 : decode cX3_kept 107 = .ok (.iconst 0, 1) := by decide +kernel
theorem dX3_kept_108 : decode cX3_kept 108 = .ok (.istore 10, 2) := by decide +kernel
theorem dX3_kept_110 : decode cX3_kept 110 = .ok (.iload 10, 2) := by decide +kernel
theorem dX3_kept_112 : decode cX3_kept 112 = .ok (.aload_n 0, 1) := by decide +kernel
theorem dX3_kept_113 : decode cX3_kept 113 = .ok (.getfield 59, 3) := by decide +kernel
theorem dX3_kept_116 : decode cX3_kept 116 = .ok (.if_icmp .ge 71, 3) := by decide +kernel
theorem dX3_kept_119 : decode cX3_kept 119 = .ok (.aload_n 0, 1) := by decide +kernel
theorem dX3_kept_120 : decode cX3_kept 120 = .ok (.getfield 19, 3) := by decide +kernel
theorem dX3_kept_123 : decode cX3_kept 123 = .ok (.iload 10, 2) := by decide +kernel
theorem dX3_kept_125 : decode cX3_kept 125 = .ok (.iaload, 1) := by decide +kernel
theorem dX3_kept_126 : decode cX3_kept 126 = .ok (.iload_n 1, 1) := by decide +kernel
theorem dX3_kept_127 : decode cX3_kept 127 = .ok (.if_icmp .ne 50, 3) := by decide +kernel
theorem dX3_kept_130 : decode cX3_kept 130 = .ok (.aload_n 0, 1) := by decide +kernel
theorem dX3_kept_131 : decode cX3_kept 131 = .ok (.getfield 13, 3) := by decide +kernel
theorem dX3_kept_134 : decode cX3_kept 134 = .ok (.iload 10, 2) := by decide +kernel
theorem dX3_kept_136 : decode cX3_kept 136 = .ok (.iaload, 1) := by decide +kernel
theorem dX3_kept_137 : decode cX3_kept 137 = .ok (.iload 7, 2) := by decide +kernel
theorem dX3_kept_139 : decode cX3_kept 139 = .ok (.iload_n 1, 1) := by decide +kernel
theorem dX3_kept_140 : decode cX3_kept 140 = .ok (.invokestatic 66, 3) := by decide +kernel
theorem dX3_kept_143 : decode cX3_kept 143 = .ok (.ifCond .eq 34, 3) := by decide +kernel
theorem dX3_kept_146 : decode cX3_kept 146 = .ok (.aload_n 0, 1) := by decide +kernel
theorem dX3_kept_147 : decode cX3_kept 147 = .ok (.getfield 7, 3) := by decide +kernel
theorem dX3_kept_150 : decode cX3_kept 150 = .ok (.iload 10, 2) := by decide +kernel
theorem dX3_kept_152 : decode cX3_kept 152 = .ok (.iaload, 1) := by decide +kernel
theorem dX3_kept_153 : decode cX3_kept 153 = .ok (.invokestatic 55, 3) := by decide +kernel
theorem dX3_kept_156 : decode cX3_kept 156 = .ok (.aload_n 0, 1) := by decide +kernel
theorem dX3_kept_157 : decode cX3_kept 157 = .ok (.getfield 7, 3) := by decide +kernel
theorem dX3_kept_160 : decode cX3_kept 160 = .ok (.iload 8, 2) := by decide +kernel
theorem dX3_kept_162 : decode cX3_kept 162 = .ok (.iaload, 1) := by decide +kernel
theorem dX3_kept_163 : decode cX3_kept 163 = .ok (.invokestatic 55, 3) := by decide +kernel
theorem dX3_kept_166 : decode cX3_kept 166 = .ok (.lcmp, 1) := by decide +kernel
theorem dX3_kept_167 : decode cX3_kept 167 = .ok (.ifCond .le 10, 3) := by decide +kernel
theorem dX3_kept_170 : decode cX3_kept 170 = .ok (.iload 9, 2) := by decide +kernel
theorem dX3_kept_172 : decode cX3_kept 172 = .ok (.iconst 1, 1) := by decide +kernel
theorem dX3_kept_173 : decode cX3_kept 173 = .ok (.iadd, 1) := by decide +kernel
theorem dX3_kept_174 : decode cX3_kept 174 = .ok (.goto 5, 3) := by decide +kernel
theorem dX3_kept_177 : decode cX3_kept 177 = .ok (.iload 9, 2) := by decide +kernel
theorem dX3_kept_179 : decode cX3_kept 179 = .ok (.istore 9, 2) := by decide +kernel
theorem dX3_kept_181 : decode cX3_kept 181 = .ok (.iinc 10 1, 3) := by decide +kernel
theorem dX3_kept_184 : decode cX3_kept 184 = .ok (.goto (-74), 3) := by decide +kernel
theorem dX3_kept_187 : decode cX3_kept 187 = .ok (.aload_n 0, 1) := by decide +kernel
theorem dX3_kept_188 : decode cX3_kept 188 = .ok (.getfield 19, 3) := by decide +kernel
theorem dX3_kept_191 : decode cX3_kept 191 = .ok (.iload 8, 2) := by decide +kernel
theorem dX3_kept_193 : decode cX3_kept 193 = .ok (.iaload, 1) := by decide +kernel
theorem dX3_kept_194 : decode cX3_kept 194 = .ok (.iload_n 1, 1) := by decide +kernel
theorem dX3_kept_195 : decode cX3_kept 195 = .ok (.if_icmp .ne 34, 3) := by decide +kernel
theorem dX3_kept_198 : decode cX3_kept 198 = .ok (.aload_n 0, 1) := by decide +kernel
theorem dX3_kept_199 : decode cX3_kept 199 = .ok (.getfield 13, 3) := by decide +kernel
theorem dX3_kept_202 : decode cX3_kept 202 = .ok (.iload 8, 2) := by decide +kernel
theorem dX3_kept_204 : decode cX3_kept 204 = .ok (.iaload, 1) := by decide +kernel
theorem dX3_kept_205 : decode cX3_kept 205 = .ok (.iload 7, 2) := by decide +kernel
theorem dX3_kept_207 : decode cX3_kept 207 = .ok (.iload_n 1, 1) := by decide +kernel
theorem dX3_kept_208 : decode cX3_kept 208 = .ok (.invokestatic 66, 3) := by decide +kernel
theorem dX3_kept_211 : decode cX3_kept 211 = .ok (.ifCond .eq 18, 3) := by decide +kernel
theorem dX3_kept_214 : decode cX3_kept 214 = .ok (.iload 9, 2) := by decide +kernel
theorem dX3_kept_216 : decode cX3_kept 216 = .ok (.iload 5, 2) := by decide +kernel
theorem dX3_kept_218 : decode cX3_kept 218 = .ok (.if_icmp .ne 11, 3) := by decide +kernel
theorem dX3_kept_221 : decode cX3_kept 221 = .ok (.aload_n 0, 1) := by decide +kernel
theorem dX3_kept_222 : decode cX3_kept 222 = .ok (.getfield 7, 3) := by decide +kernel
theorem dX3_kept_225 : decode cX3_kept 225 = .ok (.iload 8, 2) := by decide +kernel
theorem dX3_kept_227 : decode cX3_kept 227 = .ok (.iaload, 1) := by decide +kernel
theorem dX3_kept_228 : decode cX3_kept 228 = .ok (.ireturn, 1) := by decide +kernel
theorem dX3_kept_229 : decode cX3_kept 229 = .ok (.iinc 8 1, 3) := by decide +kernel
theorem dX3_kept_232 : decode cX3_kept 232 = .ok (.goto (-137), 3) := by decide +kernel
theorem dX3_kept_235 : decode cX3_kept 235 = .ok (.aload_n 0, 1) := by decide +kernel
theorem dX3_kept_236 : decode cX3_kept 236 = .ok (.iconst 2, 1) := by decide +kernel
theorem dX3_kept_237 : decode cX3_kept 237 = .ok (.invokevirtual 79, 3) := by decide +kernel
theorem dX3_kept_240 : decode cX3_kept 240 = .ok (.ireturn, 1) := by decide +kernel
theorem dX3_pagesFor_0 : decode cX3_pagesFor 0 = .ok (.iload_n 0, 1) := by decide +kernel
theorem dX3_pagesFor_1 : decode cX3_pagesFor 1 = .ok (.iconst 5, 1) := by decide +kernel
theorem dX3_pagesFor_2 : decode cX3_pagesFor 2 = .ok (.iadd, 1) := by decide +kernel
theorem dX3_pagesFor_3 : decode cX3_pagesFor 3 = .ok (.bipush 6, 2) := by decide +kernel
theorem dX3_pagesFor_5 : decode cX3_pagesFor 5 = .ok (.idiv, 1) := by decide +kernel
theorem dX3_pagesFor_6 : decode cX3_pagesFor 6 = .ok (.ireturn, 1) := by decide +kernel
theorem dX3_takenPages_0 : decode cX3_takenPages 0 = .ok (.iconst 0, 1) := by decide +kernel
theorem dX3_takenPages_1 : decode cX3_takenPages 1 = .ok (.istore_n 1, 1) := by decide +kernel
theorem dX3_takenPages_2 : decode cX3_takenPages 2 = .ok (.iconst 0, 1) := by decide +kernel
theorem dX3_takenPages_3 : decode cX3_takenPages 3 = .ok (.istore_n 2, 1) := by decide +kernel
theorem dX3_takenPages_4 : decode cX3_takenPages 4 = .ok (.iload_n 2, 1) := by decide +kernel
theorem dX3_takenPages_5 : decode cX3_takenPages 5 = .ok (.aload_n 0, 1) := by decide +kernel
theorem dX3_takenPages_6 : decode cX3_takenPages 6 = .ok (.getfield 109, 3) := by decide +kernel
theorem dX3_takenPages_9 : decode cX3_takenPages 9 = .ok (.if_icmp .ge 97, 3) := by decide +kernel
theorem dX3_takenPages_12 : decode cX3_takenPages 12 = .ok (.iconst 0, 1) := by decide +kernel
theorem dX3_takenPages_13 : decode cX3_takenPages 13 = .ok (.istore_n 3, 1) := by decide +kernel
theorem dX3_takenPages_14 : decode cX3_takenPages 14 = .ok (.iconst 0, 1) := by decide +kernel
theorem dX3_takenPages_15 : decode cX3_takenPages 15 = .ok (.istore 4, 2) := by decide +kernel
theorem dX3_takenPages_17 : decode cX3_takenPages 17 = .ok (.iload 4, 2) := by decide +kernel
theorem dX3_takenPages_19 : decode cX3_takenPages 19 = .ok (.aload_n 0, 1) := by decide +kernel
theorem dX3_takenPages_20 : decode cX3_takenPages 20 = .ok (.getfield 109, 3) := by decide +kernel
theorem dX3_takenPages_23 : decode cX3_takenPages 23 = .ok (.if_icmp .ge 58, 3) := by decide +kernel
theorem dX3_takenPages_26 : decode cX3_takenPages 26 = .ok (.aload_n 0, 1) := by decide +kernel
theorem dX3_takenPages_27 : decode cX3_takenPages 27 = .ok (.getfield 31, 3) := by decide +kernel
theorem dX3_takenPages_30 : decode cX3_takenPages 30 = .ok (.iload 4, 2) := by decide +kernel
theorem dX3_takenPages_32 : decode cX3_takenPages 32 = .ok (.iaload, 1) := by decide +kernel
theorem dX3_takenPages_33 : decode cX3_takenPages 33 = .ok (.aload_n 0, 1) := by decide +kernel
theorem dX3_takenPages_34 : decode cX3_takenPages 34 = .ok (.getfield 31, 3) := by decide +kernel
theorem dX3_takenPages_37 : decode cX3_takenPages 37 = .ok (.iload_n 2, 1) := by decide +kernel
theorem dX3_takenPages_38 : decode cX3_takenPages 38 = .ok (.iaload, 1) := by decide +kernel
theorem dX3_takenPages_39 : decode cX3_takenPages 39 = .ok (.if_icmp .ne 34, 3) := by decide +kernel
theorem dX3_takenPages_42 : decode cX3_takenPages 42 = .ok (.aload_n 0, 1) := by decide +kernel
theorem dX3_takenPages_43 : decode cX3_takenPages 43 = .ok (.getfield 25, 3) := by decide +kernel
theorem dX3_takenPages_46 : decode cX3_takenPages 46 = .ok (.iload 4, 2) := by decide +kernel
theorem dX3_takenPages_48 : decode cX3_takenPages 48 = .ok (.iaload, 1) := by decide +kernel
theorem dX3_takenPages_49 : decode cX3_takenPages 49 = .ok (.aload_n 0, 1) := by decide +kernel
theorem dX3_takenPages_50 : decode cX3_takenPages 50 = .ok (.getfield 25, 3) := by decide +kernel
theorem dX3_takenPages_53 : decode cX3_takenPages 53 = .ok (.iload_n 2, 1) := by decide +kernel
theorem dX3_takenPages_54 : decode cX3_takenPages 54 = .ok (.iaload, 1) := by decide +kernel
theorem dX3_takenPages_55 : decode cX3_takenPages 55 = .ok (.aload_n 0, 1) := by decide +kernel
theorem dX3_takenPages_56 : decode cX3_takenPages 56 = .ok (.getfield 31, 3) := by decide +kernel
theorem dX3_takenPages_59 : decode cX3_takenPages 59 = .ok (.iload_n 2, 1) := by decide +kernel
theorem dX3_takenPages_60 : decode cX3_takenPages 60 = .ok (.iaload, 1) := by decide +kernel
theorem dX3_takenPages_61 : decode cX3_takenPages 61 = .ok (.invokestatic 66, 3) := by decide +kernel
theorem dX3_takenPages_64 : decode cX3_takenPages 64 = .ok (.ifCond .eq 9, 3) := by decide +kernel
theorem dX3_takenPages_67 : decode cX3_takenPages 67 = .ok (.iload_n 3, 1) := by decide +kernel
theorem dX3_takenPages_68 : decode cX3_takenPages 68 = .ok (.iconst 1, 1) := by decide +kernel
theorem dX3_takenPages_69 : decode cX3_takenPages 69 = .ok (.iadd, 1) := by decide +kernel
theorem dX3_takenPages_70 : decode cX3_takenPages 70 = .ok (.goto 4, 3) := by decide +kernel
theorem dX3_takenPages_73 : decode cX3_takenPages 73 = .ok (.iload_n 3, 1) := by decide +kernel
theorem dX3_takenPages_74 : decode cX3_takenPages 74 = .ok (.istore_n 3, 1) := by decide +kernel
theorem dX3_takenPages_75 : decode cX3_takenPages 75 = .ok (.iinc 4 1, 3) := by decide +kernel
theorem dX3_takenPages_78 : decode cX3_takenPages 78 = .ok (.goto (-61), 3) := by decide +kernel
theorem dX3_takenPages_81 : decode cX3_takenPages 81 = .ok (.aload_n 0, 1) := by decide +kernel
theorem dX3_takenPages_82 : decode cX3_takenPages 82 = .ok (.iload_n 2, 1) := by decide +kernel
theorem dX3_takenPages_83 : decode cX3_takenPages 83 = .ok (.invokevirtual 112, 3) := by decide +kernel
theorem dX3_takenPages_86 : decode cX3_takenPages 86 = .ok (.ifCond .eq 12, 3) := by decide +kernel
theorem dX3_takenPages_89 : decode cX3_takenPages 89 = .ok (.iload_n 1, 1) := by decide +kernel
theorem dX3_takenPages_90 : decode cX3_takenPages 90 = .ok (.iload_n 3, 1) := by decide +kernel
theorem dX3_takenPages_91 : decode cX3_takenPages 91 = .ok (.invokestatic 116, 3) := by decide +kernel
theorem dX3_takenPages_94 : decode cX3_takenPages 94 = .ok (.iadd, 1) := by decide +kernel
theorem dX3_takenPages_95 : decode cX3_takenPages 95 = .ok (.goto 4, 3) := by decide +kernel
theorem dX3_takenPages_98 : decode cX3_takenPages 98 = .ok (.iload_n 1, 1) := by decide +kernel
theorem dX3_takenPages_99 : decode cX3_takenPages 99 = .ok (.istore_n 1, 1) := by decide +kernel
theorem dX3_takenPages_100 : decode cX3_takenPages 100 = .ok (.iinc 2 1, 3) := by decide +kernel
theorem dX3_takenPages_103 : decode cX3_takenPages 103 = .ok (.goto (-99), 3) := by decide +kernel
theorem dX3_takenPages_106 : decode cX3_takenPages 106 = .ok (.iload_n 1, 1) := by decide +kernel
theorem dX3_takenPages_107 : decode cX3_takenPages 107 = .ok (.ireturn, 1) := by decide +kernel
theorem dX3_isCommitted_0 : decode cX3_isCommitted 0 = .ok (.iconst 0, 1) := by decide +kernel
theorem dX3_isCommitted_1 : decode cX3_isCommitted 1 = .ok (.istore_n 2, 1) := by decide +kernel
theorem dX3_isCommitted_2 : decode cX3_isCommitted 2 = .ok (.iconst 0, 1) := by decide +kernel
theorem dX3_isCommitted_3 : decode cX3_isCommitted 3 = .ok (.istore_n 3, 1) := by decide +kernel
theorem dX3_isCommitted_4 : decode cX3_isCommitted 4 = .ok (.iload_n 3, 1) := by decide +kernel
theorem dX3_isCommitted_5 : decode cX3_isCommitted 5 = .ok (.aload_n 0, 1) := by decide +kernel
theorem dX3_isCommitted_6 : decode cX3_isCommitted 6 = .ok (.getfield 109, 3) := by decide +kernel
theorem dX3_isCommitted_9 : decode cX3_isCommitted 9 = .ok (.if_icmp .ge 79, 3) := by decide +kernel
theorem dX3_isCommitted_12 : decode cX3_isCommitted 12 = .ok (.iload_n 2, 1) := by decide +kernel
theorem dX3_isCommitted_13 : decode cX3_isCommitted 13 = .ok (.ifCond .ne 63, 3) := by decide +kernel
theorem dX3_isCommitted_16 : decode cX3_isCommitted 16 = .ok (.aload_n 0, 1) := by decide +kernel
theorem dX3_isCommitted_17 : decode cX3_isCommitted 17 = .ok (.getfield 22, 3) := by decide +kernel
theorem dX3_isCommitted_20 : decode cX3_isCommitted 20 = .ok (.iload_n 3, 1) := by decide +kernel
theorem dX3_isCommitted_21 : decode cX3_isCommitted 21 = .ok (.iaload, 1) := by decide +kernel
theorem dX3_isCommitted_22 : decode cX3_isCommitted 22 = .ok (.aload_n 0, 1) := by decide +kernel
theorem dX3_isCommitted_23 : decode cX3_isCommitted 23 = .ok (.getfield 7, 3) := by decide +kernel
theorem dX3_isCommitted_26 : decode cX3_isCommitted 26 = .ok (.iload_n 1, 1) := by decide +kernel
theorem dX3_isCommitted_27 : decode cX3_isCommitted 27 = .ok (.iaload, 1) := by decide +kernel
theorem dX3_isCommitted_28 : decode cX3_isCommitted 28 = .ok (.if_icmp .ne 52, 3) := by decide +kernel
theorem dX3_isCommitted_31 : decode cX3_isCommitted 31 = .ok (.aload_n 0, 1) := by decide +kernel
theorem dX3_isCommitted_32 : decode cX3_isCommitted 32 = .ok (.getfield 25, 3) := by decide +kernel
theorem dX3_isCommitted_35 : decode cX3_isCommitted 35 = .ok (.iload_n 3, 1) := by decide +kernel
theorem dX3_isCommitted_36 : decode cX3_isCommitted 36 = .ok (.iaload, 1) := by decide +kernel
theorem dX3_isCommitted_37 : decode cX3_isCommitted 37 = .ok (.aload_n 0, 1) := by decide +kernel
theorem dX3_isCommitted_38 : decode cX3_isCommitted 38 = .ok (.getfield 13, 3) := by decide +kernel
theorem dX3_isCommitted_41 : decode cX3_isCommitted 41 = .ok (.iload_n 1, 1) := by decide +kernel
theorem dX3_isCommitted_42 : decode cX3_isCommitted 42 = .ok (.iaload, 1) := by decide +kernel
theorem dX3_isCommitted_43 : decode cX3_isCommitted 43 = .ok (.if_icmp .ne 37, 3) := by decide +kernel
theorem dX3_isCommitted_46 : decode cX3_isCommitted 46 = .ok (.aload_n 0, 1) := by decide +kernel
theorem dX3_isCommitted_47 : decode cX3_isCommitted 47 = .ok (.getfield 28, 3) := by decide +kernel
theorem dX3_isCommitted_50 : decode cX3_isCommitted 50 = .ok (.iload_n 3, 1) := by decide +kernel
theorem dX3_isCommitted_51 : decode cX3_isCommitted 51 = .ok (.iaload, 1) := by decide +kernel
theorem dX3_isCommitted_52 : decode cX3_isCommitted 52 = .ok (.aload_n 0, 1) := by decide +kernel
theorem dX3_isCommitted_53 : decode cX3_isCommitted 53 = .ok (.getfield 16, 3) := by decide +kernel
theorem dX3_isCommitted_56 : decode cX3_isCommitted 56 = .ok (.iload_n 1, 1) := by decide +kernel
theorem dX3_isCommitted_57 : decode cX3_isCommitted 57 = .ok (.iaload, 1) := by decide +kernel
theorem dX3_isCommitted_58 : decode cX3_isCommitted 58 = .ok (.if_icmp .ne 22, 3) := by decide +kernel
theorem dX3_isCommitted_61 : decode cX3_isCommitted 61 = .ok (.aload_n 0, 1) := by decide +kernel
theorem dX3_isCommitted_62 : decode cX3_isCommitted 62 = .ok (.getfield 31, 3) := by decide +kernel
theorem dX3_isCommitted_65 : decode cX3_isCommitted 65 = .ok (.iload_n 3, 1) := by decide +kernel
theorem dX3_isCommitted_66 : decode cX3_isCommitted 66 = .ok (.iaload, 1) := by decide +kernel
theorem dX3_isCommitted_67 : decode cX3_isCommitted 67 = .ok (.aload_n 0, 1) := by decide +kernel
theorem dX3_isCommitted_68 : decode cX3_isCommitted 68 = .ok (.getfield 19, 3) := by decide +kernel
theorem dX3_isCommitted_71 : decode cX3_isCommitted 71 = .ok (.iload_n 1, 1) := by decide +kernel
theorem dX3_isCommitted_72 : decode cX3_isCommitted 72 = .ok (.iaload, 1) := by decide +kernel
theorem dX3_isCommitted_73 : decode cX3_isCommitted 73 = .ok (.if_icmp .ne 7, 3) := by decide +kernel
theorem dX3_isCommitted_76 : decode cX3_isCommitted 76 = .ok (.iconst 1, 1) := by decide +kernel
theorem dX3_isCommitted_77 : decode cX3_isCommitted 77 = .ok (.goto 4, 3) := by decide +kernel
theorem dX3_isCommitted_80 : decode cX3_isCommitted 80 = .ok (.iconst 0, 1) := by decide +kernel
theorem dX3_isCommitted_81 : decode cX3_isCommitted 81 = .ok (.istore_n 2, 1) := by decide +kernel
theorem dX3_isCommitted_82 : decode cX3_isCommitted 82 = .ok (.iinc 3 1, 3) := by decide +kernel
theorem dX3_isCommitted_85 : decode cX3_isCommitted 85 = .ok (.goto (-81), 3) := by decide +kernel
theorem dX3_isCommitted_88 : decode cX3_isCommitted 88 = .ok (.iload_n 2, 1) := by decide +kernel
theorem dX3_isCommitted_89 : decode cX3_isCommitted 89 = .ok (.ireturn, 1) := by decide +kernel
theorem dX3_isClean_0 : decode cX3_isClean 0 = .ok (.iconst 0, 1) := by decide +kernel
theorem dX3_isClean_1 : decode cX3_isClean 1 = .ok (.istore_n 3, 1) := by decide +kernel
theorem dX3_isClean_2 : decode cX3_isClean 2 = .ok (.iconst 1, 1) := by decide +kernel
theorem dX3_isClean_3 : decode cX3_isClean 3 = .ok (.istore 4, 2) := by decide +kernel
theorem dX3_isClean_5 : decode cX3_isClean 5 = .ok (.iconst 0, 1) := by decide +kernel
theorem dX3_isClean_6 : decode cX3_isClean 6 = .ok (.istore 5, 2) := by decide +kernel
theorem dX3_isClean_8 : decode cX3_isClean 8 = .ok (.iload 5, 2) := by decide +kernel
theorem dX3_isClean_10 : decode cX3_isClean 10 = .ok (.aload_n 0, 1) := by decide +kernel
theorem dX3_isClean_11 : decode cX3_isClean 11 = .ok (.getfield 59, 3) := by decide +kernel
theorem dX3_isClean_14 : decode cX3_isClean 14 = .ok (.if_icmp .ge 59, 3) := by decide +kernel
theorem dX3_isClean_17 : decode cX3_isClean 17 = .ok (.aload_n 0, 1) := by decide +kernel
theorem dX3_isClean_18 : decode cX3_isClean 18 = .ok (.getfield 19, 3) := by decide +kernel
theorem dX3_isClean_21 : decode cX3_isClean 21 = .ok (.iload 5, 2) := by decide +kernel
theorem dX3_isClean_23 : decode cX3_isClean 23 = .ok (.iaload, 1) := by decide +kernel
theorem dX3_isClean_24 : decode cX3_isClean 24 = .ok (.iload_n 2, 1) := by decide +kernel
theorem dX3_isClean_25 : decode cX3_isClean 25 = .ok (.if_icmp .lt 42, 3) := by decide +kernel
theorem dX3_isClean_28 : decode cX3_isClean 28 = .ok (.aload_n 0, 1) := by decide +kernel
theorem dX3_isClean_29 : decode cX3_isClean 29 = .ok (.getfield 13, 3) := by decide +kernel
theorem dX3_isClean_32 : decode cX3_isClean 32 = .ok (.iload 5, 2) := by decide +kernel
theorem dX3_isClean_34 : decode cX3_isClean 34 = .ok (.iaload, 1) := by decide +kernel
theorem dX3_isClean_35 : decode cX3_isClean 35 = .ok (.iload_n 1, 1) := by decide +kernel
theorem dX3_isClean_36 : decode cX3_isClean 36 = .ok (.iload_n 2, 1) := by decide +kernel
theorem dX3_isClean_37 : decode cX3_isClean 37 = .ok (.invokestatic 66, 3) := by decide +kernel
theorem dX3_isClean_40 : decode cX3_isClean 40 = .ok (.ifCond .eq 27, 3) := by decide +kernel
theorem dX3_isClean_43 : decode cX3_isClean 43 = .ok (.iinc 3 1, 3) := by decide +kernel
theorem dX3_isClean_46 : decode cX3_isClean 46 = .ok (.iload 4, 2) := by decide +kernel
theorem dX3_isClean_48 : decode cX3_isClean 48 = .ok (.ifCond .eq 16, 3) := by decide +kernel
theorem dX3_isClean_51 : decode cX3_isClean 51 = .ok (.aload_n 0, 1) := by decide +kernel
theorem dX3_isClean_52 : decode cX3_isClean 52 = .ok (.iload 5, 2) := by decide +kernel
theorem dX3_isClean_54 : decode cX3_isClean 54 = .ok (.invokevirtual 119, 3) := by decide +kernel
theorem dX3_isClean_57 : decode cX3_isClean 57 = .ok (.ifCond .eq 7, 3) := by decide +kernel
theorem dX3_isClean_60 : decode cX3_isClean 60 = .ok (.iconst 1, 1) := by decide +kernel
theorem dX3_isClean_61 : decode cX3_isClean 61 = .ok (.goto 4, 3) := by decide +kernel
theorem dX3_isClean_64 : decode cX3_isClean 64 = .ok (.iconst 0, 1) := by decide +kernel
theorem dX3_isClean_65 : decode cX3_isClean 65 = .ok (.istore 4, 2) := by decide +kernel
theorem dX3_isClean_67 : decode cX3_isClean 67 = .ok (.iinc 5 1, 3) := by decide +kernel
theorem dX3_isClean_70 : decode cX3_isClean 70 = .ok (.goto (-62), 3) := by decide +kernel
theorem dX3_isClean_73 : decode cX3_isClean 73 = .ok (.iconst 0, 1) := by decide +kernel
theorem dX3_isClean_74 : decode cX3_isClean 74 = .ok (.istore 5, 2) := by decide +kernel
theorem dX3_isClean_76 : decode cX3_isClean 76 = .ok (.iload 5, 2) := by decide +kernel
theorem dX3_isClean_78 : decode cX3_isClean 78 = .ok (.aload_n 0, 1) := by decide +kernel
theorem dX3_isClean_79 : decode cX3_isClean 79 = .ok (.getfield 109, 3) := by decide +kernel
theorem dX3_isClean_82 : decode cX3_isClean 82 = .ok (.if_icmp .ge 43, 3) := by decide +kernel
theorem dX3_isClean_85 : decode cX3_isClean 85 = .ok (.aload_n 0, 1) := by decide +kernel
theorem dX3_isClean_86 : decode cX3_isClean 86 = .ok (.getfield 31, 3) := by decide +kernel
theorem dX3_isClean_89 : decode cX3_isClean 89 = .ok (.iload 5, 2) := by decide +kernel
theorem dX3_isClean_91 : decode cX3_isClean 91 = .ok (.iaload, 1) := by decide +kernel
theorem dX3_isClean_92 : decode cX3_isClean 92 = .ok (.iload_n 2, 1) := by decide +kernel
theorem dX3_isClean_93 : decode cX3_isClean 93 = .ok (.if_icmp .lt 24, 3) := by decide +kernel
theorem dX3_isClean_96 : decode cX3_isClean 96 = .ok (.aload_n 0, 1) := by decide +kernel
theorem dX3_isClean_97 : decode cX3_isClean 97 = .ok (.getfield 25, 3) := by decide +kernel
theorem dX3_isClean_100 : decode cX3_isClean 100 = .ok (.iload 5, 2) := by decide +kernel
theorem dX3_isClean_102 : decode cX3_isClean 102 = .ok (.iaload, 1) := by decide +kernel
theorem dX3_isClean_103 : decode cX3_isClean 103 = .ok (.iload_n 1, 1) := by decide +kernel
theorem dX3_isClean_104 : decode cX3_isClean 104 = .ok (.iload_n 2, 1) := by decide +kernel
theorem dX3_isClean_105 : decode cX3_isClean 105 = .ok (.invokestatic 66, 3) := by decide +kernel
theorem dX3_isClean_108 : decode cX3_isClean 108 = .ok (.ifCond .eq 9, 3) := by decide +kernel
theorem dX3_isClean_111 : decode cX3_isClean 111 = .ok (.iload_n 3, 1) := by decide +kernel
theorem dX3_isClean_112 : decode cX3_isClean 112 = .ok (.iconst 1, 1) := by decide +kernel
theorem dX3_isClean_113 : decode cX3_isClean 113 = .ok (.isub, 1) := by decide +kernel
theorem dX3_isClean_114 : decode cX3_isClean 114 = .ok (.goto 4, 3) := by decide +kernel
theorem dX3_isClean_117 : decode cX3_isClean 117 = .ok (.iload_n 3, 1) := by decide +kernel
theorem dX3_isClean_118 : decode cX3_isClean 118 = .ok (.istore_n 3, 1) := by decide +kernel
theorem dX3_isClean_119 : decode cX3_isClean 119 = .ok (.iinc 5 1, 3) := by decide +kernel
theorem dX3_isClean_122 : decode cX3_isClean 122 = .ok (.goto (-46), 3) := by decide +kernel
theorem dX3_isClean_125 : decode cX3_isClean 125 = .ok (.iload 4, 2) := by decide +kernel
theorem dX3_isClean_127 : decode cX3_isClean 127 = .ok (.ifCond .eq 11, 3) := by decide +kernel
theorem dX3_isClean_130 : decode cX3_isClean 130 = .ok (.iload_n 3, 1) := by decide +kernel
theorem dX3_isClean_131 : decode cX3_isClean 131 = .ok (.ifCond .ne 7, 3) := by decide +kernel
theorem dX3_isClean_134 : decode cX3_isClean 134 = .ok (.iconst 1, 1) := by decide +kernel
theorem dX3_isClean_135 : decode cX3_isClean 135 = .ok (.goto 4, 3) := by decide +kernel
theorem dX3_isClean_138 : decode cX3_isClean 138 = .ok (.iconst 0, 1) := by decide +kernel
theorem dX3_isClean_139 : decode cX3_isClean 139 = .ok (.ireturn, 1) := by decide +kernel
theorem dX3_pagesToWrite_0 : decode cX3_pagesToWrite 0 = .ok (.iconst 0, 1) := by decide +kernel
theorem dX3_pagesToWrite_1 : decode cX3_pagesToWrite 1 = .ok (.istore_n 1, 1) := by decide +kernel
theorem dX3_pagesToWrite_2 : decode cX3_pagesToWrite 2 = .ok (.iconst 0, 1) := by decide +kernel
theorem dX3_pagesToWrite_3 : decode cX3_pagesToWrite 3 = .ok (.istore_n 2, 1) := by decide +kernel
theorem dX3_pagesToWrite_4 : decode cX3_pagesToWrite 4 = .ok (.iload_n 2, 1) := by decide +kernel
theorem dX3_pagesToWrite_5 : decode cX3_pagesToWrite 5 = .ok (.aload_n 0, 1) := by decide +kernel
theorem dX3_pagesToWrite_6 : decode cX3_pagesToWrite 6 = .ok (.getfield 59, 3) := by decide +kernel
theorem dX3_pagesToWrite_9 : decode cX3_pagesToWrite 9 = .ok (.if_icmp .ge 72, 3) := by decide +kernel
theorem dX3_pagesToWrite_12 : decode cX3_pagesToWrite 12 = .ok (.aload_n 0, 1) := by decide +kernel
theorem dX3_pagesToWrite_13 : decode cX3_pagesToWrite 13 = .ok (.iload_n 2, 1) := by decide +kernel
theorem dX3_pagesToWrite_14 : decode cX3_pagesToWrite 14 = .ok (.invokevirtual 122, 3) := by decide +kernel
theorem dX3_pagesToWrite_17 : decode cX3_pagesToWrite 17 = .ok (.ifCond .eq 26, 3) := by decide +kernel
theorem dX3_pagesToWrite_20 : decode cX3_pagesToWrite 20 = .ok (.aload_n 0, 1) := by decide +kernel
theorem dX3_pagesToWrite_21 : decode cX3_pagesToWrite 21 = .ok (.aload_n 0, 1) := by decide +kernel
theorem dX3_pagesToWrite_22 : decode cX3_pagesToWrite 22 = .ok (.getfield 13, 3) := by decide +kernel
theorem dX3_pagesToWrite_25 : decode cX3_pagesToWrite 25 = .ok (.iload_n 2, 1) := by decide +kernel
theorem dX3_pagesToWrite_26 : decode cX3_pagesToWrite 26 = .ok (.iaload, 1) := by decide +kernel
theorem dX3_pagesToWrite_27 : decode cX3_pagesToWrite 27 = .ok (.aload_n 0, 1) := by decide +kernel
theorem dX3_pagesToWrite_28 : decode cX3_pagesToWrite 28 = .ok (.getfield 19, 3) := by decide +kernel
theorem dX3_pagesToWrite_31 : decode cX3_pagesToWrite 31 = .ok (.iload_n 2, 1) := by decide +kernel
theorem dX3_pagesToWrite_32 : decode cX3_pagesToWrite 32 = .ok (.iaload, 1) := by decide +kernel
theorem dX3_pagesToWrite_33 : decode cX3_pagesToWrite 33 = .ok (.invokevirtual 125, 3) := by decide +kernel
theorem dX3_pagesToWrite_36 : decode cX3_pagesToWrite 36 = .ok (.ifCond .ne 7, 3) := by decide +kernel
theorem dX3_pagesToWrite_39 : decode cX3_pagesToWrite 39 = .ok (.iconst 1, 1) := by decide +kernel
theorem dX3_pagesToWrite_40 : decode cX3_pagesToWrite 40 = .ok (.goto 4, 3) := by decide +kernel
theorem dX3_pagesToWrite_43 : decode cX3_pagesToWrite 43 = .ok (.iconst 0, 1) := by decide +kernel
theorem dX3_pagesToWrite_44 : decode cX3_pagesToWrite 44 = .ok (.istore_n 3, 1) := by decide +kernel
theorem dX3_pagesToWrite_45 : decode cX3_pagesToWrite 45 = .ok (.iload_n 3, 1) := by decide +kernel
theorem dX3_pagesToWrite_46 : decode cX3_pagesToWrite 46 = .ok (.ifCond .eq 27, 3) := by decide +kernel
theorem dX3_pagesToWrite_49 : decode cX3_pagesToWrite 49 = .ok (.iload_n 1, 1) := by decide +kernel
theorem dX3_pagesToWrite_50 : decode cX3_pagesToWrite 50 = .ok (.aload_n 0, 1) := by decide +kernel
theorem dX3_pagesToWrite_51 : decode cX3_pagesToWrite 51 = .ok (.aload_n 0, 1) := by decide +kernel
theorem dX3_pagesToWrite_52 : decode cX3_pagesToWrite 52 = .ok (.getfield 13, 3) := by decide +kernel
theorem dX3_pagesToWrite_55 : decode cX3_pagesToWrite 55 = .ok (.iload_n 2, 1) := by decide +kernel
theorem dX3_pagesToWrite_56 : decode cX3_pagesToWrite 56 = .ok (.iaload, 1) := by decide +kernel
theorem dX3_pagesToWrite_57 : decode cX3_pagesToWrite 57 = .ok (.aload_n 0, 1) := by decide +kernel
theorem dX3_pagesToWrite_58 : decode cX3_pagesToWrite 58 = .ok (.getfield 19, 3) := by decide +kernel
theorem dX3_pagesToWrite_61 : decode cX3_pagesToWrite 61 = .ok (.iload_n 2, 1) := by decide +kernel
theorem dX3_pagesToWrite_62 : decode cX3_pagesToWrite 62 = .ok (.iaload, 1) := by decide +kernel
theorem dX3_pagesToWrite_63 : decode cX3_pagesToWrite 63 = .ok (.invokevirtual 73, 3) := by decide +kernel
theorem dX3_pagesToWrite_66 : decode cX3_pagesToWrite 66 = .ok (.invokestatic 116, 3) := by decide +kernel
theorem dX3_pagesToWrite_69 : decode cX3_pagesToWrite 69 = .ok (.iadd, 1) := by decide +kernel
theorem dX3_pagesToWrite_70 : decode cX3_pagesToWrite 70 = .ok (.goto 4, 3) := by decide +kernel
theorem dX3_pagesToWrite_73 : decode cX3_pagesToWrite 73 = .ok (.iload_n 1, 1) := by decide +kernel
theorem dX3_pagesToWrite_74 : decode cX3_pagesToWrite 74 = .ok (.istore_n 1, 1) := by decide +kernel
theorem dX3_pagesToWrite_75 : decode cX3_pagesToWrite 75 = .ok (.iinc 2 1, 3) := by decide +kernel
theorem dX3_pagesToWrite_78 : decode cX3_pagesToWrite 78 = .ok (.goto (-74), 3) := by decide +kernel
theorem dX3_pagesToWrite_81 : decode cX3_pagesToWrite 81 = .ok (.iload_n 1, 1) := by decide +kernel
theorem dX3_pagesToWrite_82 : decode cX3_pagesToWrite 82 = .ok (.ireturn, 1) := by decide +kernel
theorem dX3_commit_0 : decode cX3_commit 0 = .ok (.aload_n 0, 1) := by decide +kernel
theorem dX3_commit_1 : decode cX3_commit 1 = .ok (.iconst 0, 1) := by decide +kernel
theorem dX3_commit_2 : decode cX3_commit 2 = .ok (.putfield 45, 3) := by decide +kernel
theorem dX3_commit_5 : decode cX3_commit 5 = .ok (.aload_n 0, 1) := by decide +kernel
theorem dX3_commit_6 : decode cX3_commit 6 = .ok (.iconst 0, 1) := by decide +kernel
theorem dX3_commit_7 : decode cX3_commit 7 = .ok (.iconst 0, 1) := by decide +kernel
theorem dX3_commit_8 : decode cX3_commit 8 = .ok (.invokevirtual 125, 3) := by decide +kernel
theorem dX3_commit_11 : decode cX3_commit 11 = .ok (.ifCond .eq 5, 3) := by decide +kernel
theorem dX3_commit_14 : decode cX3_commit 14 = .ok (.iconst 0, 1) := by decide +kernel
theorem dX3_commit_15 : decode cX3_commit 15 = .ok (.ireturn, 1) := by decide +kernel
theorem dX3_commit_16 : decode cX3_commit 16 = .ok (.aload_n 0, 1) := by decide +kernel
theorem dX3_commit_17 : decode cX3_commit 17 = .ok (.invokevirtual 128, 3) := by decide +kernel
theorem dX3_commit_20 : decode cX3_commit 20 = .ok (.istore_n 1, 1) := by decide +kernel
theorem dX3_commit_21 : decode cX3_commit 21 = .ok (.iload_n 1, 1) := by decide +kernel
theorem dX3_commit_22 : decode cX3_commit 22 = .ok (.bipush 64, 2) := by decide +kernel
theorem dX3_commit_24 : decode cX3_commit 24 = .ok (.aload_n 0, 1) := by decide +kernel
theorem dX3_commit_25 : decode cX3_commit 25 = .ok (.invokevirtual 131, 3) := by decide +kernel
theorem dX3_commit_28 : decode cX3_commit 28 = .ok (.isub, 1) := by decide +kernel
theorem dX3_commit_29 : decode cX3_commit 29 = .ok (.if_icmp .le 9, 3) := by decide +kernel
theorem dX3_commit_32 : decode cX3_commit 32 = .ok (.aload_n 0, 1) := by decide +kernel
theorem dX3_commit_33 : decode cX3_commit 33 = .ok (.iconst 1, 1) := by decide +kernel
theorem dX3_commit_34 : decode cX3_commit 34 = .ok (.invokevirtual 79, 3) := by decide +kernel
theorem dX3_commit_37 : decode cX3_commit 37 = .ok (.ireturn, 1) := by decide +kernel
theorem dX3_commit_38 : decode cX3_commit 38 = .ok (.aload_n 0, 1) := by decide +kernel
theorem dX3_commit_39 : decode cX3_commit 39 = .ok (.getfield 41, 3) := by decide +kernel
theorem dX3_commit_42 : decode cX3_commit 42 = .ok (.ifCond .lt 42, 3) := by decide +kernel
theorem dX3_commit_45 : decode cX3_commit 45 = .ok (.aload_n 0, 1) := by decide +kernel
theorem dX3_commit_46 : decode cX3_commit 46 = .ok (.getfield 41, 3) := by decide +kernel
theorem dX3_commit_49 : decode cX3_commit 49 = .ok (.iload_n 1, 1) := by decide +kernel
theorem dX3_commit_50 : decode cX3_commit 50 = .ok (.iconst 1, 1) := by decide +kernel
theorem dX3_commit_51 : decode cX3_commit 51 = .ok (.iadd, 1) := by decide +kernel
theorem dX3_commit_52 : decode cX3_commit 52 = .ok (.if_icmp .ge 32, 3) := by decide +kernel
theorem dX3_commit_55 : decode cX3_commit 55 = .ok (.aload_n 0, 1) := by decide +kernel
theorem dX3_commit_56 : decode cX3_commit 56 = .ok (.aload_n 0, 1) := by decide +kernel
theorem dX3_commit_57 : decode cX3_commit 57 = .ok (.getfield 134, 3) := by decide +kernel
theorem dX3_commit_60 : decode cX3_commit 60 = .ok (.aload_n 0, 1) := by decide +kernel
theorem dX3_commit_61 : decode cX3_commit 61 = .ok (.getfield 41, 3) := by decide +kernel
theorem dX3_commit_64 : decode cX3_commit 64 = .ok (.iadd, 1) := by decide +kernel
theorem dX3_commit_65 : decode cX3_commit 65 = .ok (.putfield 134, 3) := by decide +kernel
theorem dX3_commit_68 : decode cX3_commit 68 = .ok (.aload_n 0, 1) := by decide +kernel
theorem dX3_commit_69 : decode cX3_commit 69 = .ok (.iconst (-1), 1) := by decide +kernel
theorem dX3_commit_70 : decode cX3_commit 70 = .ok (.putfield 41, 3) := by decide +kernel
theorem dX3_commit_73 : decode cX3_commit 73 = .ok (.aload_n 0, 1) := by decide +kernel
theorem dX3_commit_74 : decode cX3_commit 74 = .ok (.invokevirtual 137, 3) := by decide +kernel
theorem dX3_commit_77 : decode cX3_commit 77 = .ok (.istore_n 2, 1) := by decide +kernel
theorem dX3_commit_78 : decode cX3_commit 78 = .ok (.aload_n 0, 1) := by decide +kernel
theorem dX3_commit_79 : decode cX3_commit 79 = .ok (.iconst 2, 1) := by decide +kernel
theorem dX3_commit_80 : decode cX3_commit 80 = .ok (.invokevirtual 79, 3) := by decide +kernel
theorem dX3_commit_83 : decode cX3_commit 83 = .ok (.ireturn, 1) := by decide +kernel
theorem dX3_commit_84 : decode cX3_commit 84 = .ok (.aload_n 0, 1) := by decide +kernel
theorem dX3_commit_85 : decode cX3_commit 85 = .ok (.aload_n 0, 1) := by decide +kernel
theorem dX3_commit_86 : decode cX3_commit 86 = .ok (.getfield 134, 3) := by decide +kernel
theorem dX3_commit_89 : decode cX3_commit 89 = .ok (.iload_n 1, 1) := by decide +kernel
theorem dX3_commit_90 : decode cX3_commit 90 = .ok (.iadd, 1) := by decide +kernel
theorem dX3_commit_91 : decode cX3_commit 91 = .ok (.iconst 1, 1) := by decide +kernel
theorem dX3_commit_92 : decode cX3_commit 92 = .ok (.iadd, 1) := by decide +kernel
theorem dX3_commit_93 : decode cX3_commit 93 = .ok (.putfield 134, 3) := by decide +kernel
theorem dX3_commit_96 : decode cX3_commit 96 = .ok (.aload_n 0, 1) := by decide +kernel
theorem dX3_commit_97 : decode cX3_commit 97 = .ok (.aload_n 0, 1) := by decide +kernel
theorem dX3_commit_98 : decode cX3_commit 98 = .ok (.getfield 41, 3) := by decide +kernel
theorem dX3_commit_101 : decode cX3_commit 101 = .ok (.ifCond .ge 10, 3) := by decide +kernel
theorem dX3_commit_104 : decode cX3_commit 104 = .ok (.aload_n 0, 1) := by decide +kernel
theorem dX3_commit_105 : decode cX3_commit 105 = .ok (.getfield 41, 3) := by decide +kernel
theorem dX3_commit_108 : decode cX3_commit 108 = .ok (.goto 11, 3) := by decide +kernel
theorem dX3_commit_111 : decode cX3_commit 111 = .ok (.aload_n 0, 1) := by decide +kernel
theorem dX3_commit_112 : decode cX3_commit 112 = .ok (.getfield 41, 3) := by decide +kernel
theorem dX3_commit_115 : decode cX3_commit 115 = .ok (.iload_n 1, 1) := by decide +kernel
theorem dX3_commit_116 : decode cX3_commit 116 = .ok (.isub, 1) := by decide +kernel
theorem dX3_commit_117 : decode cX3_commit 117 = .ok (.iconst 1, 1) := by decide +kernel
theorem dX3_commit_118 : decode cX3_commit 118 = .ok (.isub, 1) := by decide +kernel
theorem dX3_commit_119 : decode cX3_commit 119 = .ok (.putfield 41, 3) := by decide +kernel
theorem dX3_commit_122 : decode cX3_commit 122 = .ok (.aload_n 0, 1) := by decide +kernel
theorem dX3_commit_123 : decode cX3_commit 123 = .ok (.aload_n 0, 1) := by decide +kernel
theorem dX3_commit_124 : decode cX3_commit 124 = .ok (.getfield 59, 3) := by decide +kernel
theorem dX3_commit_127 : decode cX3_commit 127 = .ok (.putfield 109, 3) := by decide +kernel
theorem dX3_commit_130 : decode cX3_commit 130 = .ok (.iconst 0, 1) := by decide +kernel
theorem dX3_commit_131 : decode cX3_commit 131 = .ok (.istore_n 2, 1) := by decide +kernel
theorem dX3_commit_132 : decode cX3_commit 132 = .ok (.iload_n 2, 1) := by decide +kernel
theorem dX3_commit_133 : decode cX3_commit 133 = .ok (.aload_n 0, 1) := by decide +kernel
theorem dX3_commit_134 : decode cX3_commit 134 = .ok (.getfield 59, 3) := by decide +kernel
theorem dX3_commit_137 : decode cX3_commit 137 = .ok (.if_icmp .ge 57, 3) := by decide +kernel
theorem dX3_commit_140 : decode cX3_commit 140 = .ok (.aload_n 0, 1) := by decide +kernel
theorem dX3_commit_141 : decode cX3_commit 141 = .ok (.getfield 22, 3) := by decide +kernel
theorem dX3_commit_144 : decode cX3_commit 144 = .ok (.iload_n 2, 1) := by decide +kernel
theorem dX3_commit_145 : decode cX3_commit 145 = .ok (.aload_n 0, 1) := by decide +kernel
theorem dX3_commit_146 : decode cX3_commit 146 = .ok (.getfield 7, 3) := by decide +kernel
theorem dX3_commit_149 : decode cX3_commit 149 = .ok (.iload_n 2, 1) := by decide +kernel
theorem dX3_commit_150 : decode cX3_commit 150 = .ok (.iaload, 1) := by decide +kernel
theorem dX3_commit_151 : decode cX3_commit 151 = .ok (.iastore, 1) := by decide +kernel
theorem dX3_commit_152 : decode cX3_commit 152 = .ok (.aload_n 0, 1) := by decide +kernel
theorem dX3_commit_153 : decode cX3_commit 153 = .ok (.getfield 25, 3) := by decide +kernel
theorem dX3_commit_156 : decode cX3_commit 156 = .ok (.iload_n 2, 1) := by decide +kernel
theorem dX3_commit_157 : decode cX3_commit 157 = .ok (.aload_n 0, 1) := by decide +kernel
theorem dX3_commit_158 : decode cX3_commit 158 = .ok (.getfield 13, 3) := by decide +kernel
theorem dX3_commit_161 : decode cX3_commit 161 = .ok (.iload_n 2, 1) := by decide +kernel
theorem dX3_commit_162 : decode cX3_commit 162 = .ok (.iaload, 1) := by decide +kernel
theorem dX3_commit_163 : decode cX3_commit 163 = .ok (.iastore, 1) := by decide +kernel
theorem dX3_commit_164 : decode cX3_commit 164 = .ok (.aload_n 0, 1) := by decide +kernel
theorem dX3_commit_165 : decode cX3_commit 165 = .ok (.getfield 28, 3) := by decide +kernel
theorem dX3_commit_168 : decode cX3_commit 168 = .ok (.iload_n 2, 1) := by decide +kernel
theorem dX3_commit_169 : decode cX3_commit 169 = .ok (.aload_n 0, 1) := by decide +kernel
theorem dX3_commit_170 : decode cX3_commit 170 = .ok (.getfield 16, 3) := by decide +kernel
theorem dX3_commit_173 : decode cX3_commit 173 = .ok (.iload_n 2, 1) := by decide +kernel
theorem dX3_commit_174 : decode cX3_commit 174 = .ok (.iaload, 1) := by decide +kernel
theorem dX3_commit_175 : decode cX3_commit 175 = .ok (.iastore, 1) := by decide +kernel
theorem dX3_commit_176 : decode cX3_commit 176 = .ok (.aload_n 0, 1) := by decide +kernel
theorem dX3_commit_177 : decode cX3_commit 177 = .ok (.getfield 31, 3) := by decide +kernel
theorem dX3_commit_180 : decode cX3_commit 180 = .ok (.iload_n 2, 1) := by decide +kernel
theorem dX3_commit_181 : decode cX3_commit 181 = .ok (.aload_n 0, 1) := by decide +kernel
theorem dX3_commit_182 : decode cX3_commit 182 = .ok (.getfield 19, 3) := by decide +kernel
theorem dX3_commit_185 : decode cX3_commit 185 = .ok (.iload_n 2, 1) := by decide +kernel
theorem dX3_commit_186 : decode cX3_commit 186 = .ok (.iaload, 1) := by decide +kernel
theorem dX3_commit_187 : decode cX3_commit 187 = .ok (.iastore, 1) := by decide +kernel
theorem dX3_commit_188 : decode cX3_commit 188 = .ok (.iinc 2 1, 3) := by decide +kernel
theorem dX3_commit_191 : decode cX3_commit 191 = .ok (.goto (-59), 3) := by decide +kernel
theorem dX3_commit_194 : decode cX3_commit 194 = .ok (.iload_n 1, 1) := by decide +kernel
theorem dX3_commit_195 : decode cX3_commit 195 = .ok (.iconst 1, 1) := by decide +kernel
theorem dX3_commit_196 : decode cX3_commit 196 = .ok (.iadd, 1) := by decide +kernel
theorem dX3_commit_197 : decode cX3_commit 197 = .ok (.ireturn, 1) := by decide +kernel
theorem dX3_charge_0 : decode cX3_charge 0 = .ok (.aload_n 0, 1) := by decide +kernel
theorem dX3_charge_1 : decode cX3_charge 1 = .ok (.iload_n 1, 1) := by decide +kernel
theorem dX3_charge_2 : decode cX3_charge 2 = .ok (.iconst 0, 1) := by decide +kernel
theorem dX3_charge_3 : decode cX3_charge 3 = .ok (.bipush 99, 2) := by decide +kernel
theorem dX3_charge_5 : decode cX3_charge 5 = .ok (.invokestatic 48, 3) := by decide +kernel
theorem dX3_charge_8 : decode cX3_charge 8 = .ok (.ifCond .eq 7, 3) := by decide +kernel
theorem dX3_charge_11 : decode cX3_charge 11 = .ok (.iconst 0, 1) := by decide +kernel
theorem dX3_charge_12 : decode cX3_charge 12 = .ok (.goto 4, 3) := by decide +kernel
theorem dX3_charge_15 : decode cX3_charge 15 = .ok (.iconst 1, 1) := by decide +kernel
theorem dX3_charge_16 : decode cX3_charge 16 = .ok (.putfield 45, 3) := by decide +kernel
theorem dX3_charge_19 : decode cX3_charge 19 = .ok (.aload_n 0, 1) := by decide +kernel
theorem dX3_charge_20 : decode cX3_charge 20 = .ok (.aload_n 0, 1) := by decide +kernel
theorem dX3_charge_21 : decode cX3_charge 21 = .ok (.getfield 45, 3) := by decide +kernel
theorem dX3_charge_24 : decode cX3_charge 24 = .ok (.ifCond .ne 7, 3) := by decide +kernel
theorem dX3_charge_27 : decode cX3_charge 27 = .ok (.iload_n 1, 1) := by decide +kernel
theorem dX3_charge_28 : decode cX3_charge 28 = .ok (.goto 7, 3) := by decide +kernel
theorem dX3_charge_31 : decode cX3_charge 31 = .ok (.aload_n 0, 1) := by decide +kernel
theorem dX3_charge_32 : decode cX3_charge 32 = .ok (.getfield 41, 3) := by decide +kernel
theorem dX3_charge_35 : decode cX3_charge 35 = .ok (.putfield 41, 3) := by decide +kernel
theorem dX3_charge_38 : decode cX3_charge 38 = .ok (.return_, 1) := by decide +kernel
theorem dX3_open_0 : decode cX3_open 0 = .ok (.aload_n 0, 1) := by decide +kernel
theorem dX3_open_1 : decode cX3_open 1 = .ok (.iconst 0, 1) := by decide +kernel
theorem dX3_open_2 : decode cX3_open 2 = .ok (.putfield 45, 3) := by decide +kernel
theorem dX3_open_5 : decode cX3_open 5 = .ok (.aload_n 0, 1) := by decide +kernel
theorem dX3_open_6 : decode cX3_open 6 = .ok (.aload_n 0, 1) := by decide +kernel
theorem dX3_open_7 : decode cX3_open 7 = .ok (.getfield 109, 3) := by decide +kernel
theorem dX3_open_10 : decode cX3_open 10 = .ok (.putfield 59, 3) := by decide +kernel
theorem dX3_open_13 : decode cX3_open 13 = .ok (.iconst 0, 1) := by decide +kernel
theorem dX3_open_14 : decode cX3_open 14 = .ok (.istore_n 1, 1) := by decide +kernel
theorem dX3_open_15 : decode cX3_open 15 = .ok (.iload_n 1, 1) := by decide +kernel
theorem dX3_open_16 : decode cX3_open 16 = .ok (.aload_n 0, 1) := by decide +kernel
theorem dX3_open_17 : decode cX3_open 17 = .ok (.getfield 59, 3) := by decide +kernel
theorem dX3_open_20 : decode cX3_open 20 = .ok (.if_icmp .ge 45, 3) := by decide +kernel
theorem dX3_open_23 : decode cX3_open 23 = .ok (.aload_n 0, 1) := by decide +kernel
theorem dX3_open_24 : decode cX3_open 24 = .ok (.getfield 7, 3) := by decide +kernel
theorem dX3_open_27 : decode cX3_open 27 = .ok (.iload_n 1, 1) := by decide +kernel
theorem dX3_open_28 : decode cX3_open 28 = .ok (.aload_n 0, 1) := by decide +kernel
theorem dX3_open_29 : decode cX3_open 29 = .ok (.getfield 22, 3) := by decide +kernel
theorem dX3_open_32 : decode cX3_open 32 = .ok (.iload_n 1, 1) := by decide +kernel
theorem dX3_open_33 : decode cX3_open 33 = .ok (.iaload, 1) := by decide +kernel
theorem dX3_open_34 : decode cX3_open 34 = .ok (.iastore, 1) := by decide +kernel
theorem dX3_open_35 : decode cX3_open 35 = .ok (.aload_n 0, 1) := by decide +kernel
theorem dX3_open_36 : decode cX3_open 36 = .ok (.getfield 13, 3) := by decide +kernel
theorem dX3_open_39 : decode cX3_open 39 = .ok (.iload_n 1, 1) := by decide +kernel
theorem dX3_open_40 : decode cX3_open 40 = .ok (.aload_n 0, 1) := by decide +kernel
theorem dX3_open_41 : decode cX3_open 41 = .ok (.getfield 25, 3) := by decide +kernel
theorem dX3_open_44 : decode cX3_open 44 = .ok (.iload_n 1, 1) := by decide +kernel
theorem dX3_open_45 : decode cX3_open 45 = .ok (.iaload, 1) := by decide +kernel
theorem dX3_open_46 : decode cX3_open 46 = .ok (.iastore, 1) := by decide +kernel
theorem dX3_open_47 : decode cX3_open 47 = .ok (.aload_n 0, 1) := by decide +kernel
theorem dX3_open_48 : decode cX3_open 48 = .ok (.getfield 16, 3) := by decide +kernel
theorem dX3_open_51 : decode cX3_open 51 = .ok (.iload_n 1, 1) := by decide +kernel
theorem dX3_open_52 : decode cX3_open 52 = .ok (.aload_n 0, 1) := by decide +kernel
theorem dX3_open_53 : decode cX3_open 53 = .ok (.getfield 28, 3) := by decide +kernel
theorem dX3_open_56 : decode cX3_open 56 = .ok (.iload_n 1, 1) := by decide +kernel
theorem dX3_open_57 : decode cX3_open 57 = .ok (.iaload, 1) := by decide +kernel
theorem dX3_open_58 : decode cX3_open 58 = .ok (.iastore, 1) := by decide +kernel
theorem dX3_open_59 : decode cX3_open 59 = .ok (.iinc 1 1, 3) := by decide +kernel
theorem dX3_open_62 : decode cX3_open 62 = .ok (.goto (-47), 3) := by decide +kernel
theorem dX3_open_65 : decode cX3_open 65 = .ok (.aload_n 0, 1) := by decide +kernel
theorem dX3_open_66 : decode cX3_open 66 = .ok (.invokevirtual 90, 3) := by decide +kernel
theorem dX3_open_69 : decode cX3_open 69 = .ok (.aload_n 0, 1) := by decide +kernel
theorem dX3_open_70 : decode cX3_open 70 = .ok (.iconst 0, 1) := by decide +kernel
theorem dX3_open_71 : decode cX3_open 71 = .ok (.putfield 99, 3) := by decide +kernel
theorem dX3_open_74 : decode cX3_open 74 = .ok (.aload_n 0, 1) := by decide +kernel
theorem dX3_open_75 : decode cX3_open 75 = .ok (.iconst 0, 1) := by decide +kernel
theorem dX3_open_76 : decode cX3_open 76 = .ok (.putfield 93, 3) := by decide +kernel
theorem dX3_open_79 : decode cX3_open 79 = .ok (.aload_n 0, 1) := by decide +kernel
theorem dX3_open_80 : decode cX3_open 80 = .ok (.getfield 59, 3) := by decide +kernel
theorem dX3_open_83 : decode cX3_open 83 = .ok (.ireturn, 1) := by decide +kernel
theorem dX3_state_0 : decode cX3_state 0 = .ok (.aload_n 0, 1) := by decide +kernel
theorem dX3_state_1 : decode cX3_state 1 = .ok (.iconst 0, 1) := by decide +kernel
theorem dX3_state_2 : decode cX3_state 2 = .ok (.putfield 45, 3) := by decide +kernel
theorem dX3_state_5 : decode cX3_state 5 = .ok (.iconst 0, 1) := by decide +kernel
theorem dX3_state_6 : decode cX3_state 6 = .ok (.istore_n 2, 1) := by decide +kernel
theorem dX3_state_7 : decode cX3_state 7 = .ok (.iconst 0, 1) := by decide +kernel
theorem dX3_state_8 : decode cX3_state 8 = .ok (.istore_n 3, 1) := by decide +kernel
theorem dX3_state_9 : decode cX3_state 9 = .ok (.iload_n 3, 1) := by decide +kernel
theorem dX3_state_10 : decode cX3_state 10 = .ok (.aload_n 0, 1) := by decide +kernel
theorem dX3_state_11 : decode cX3_state 11 = .ok (.getfield 59, 3) := by decide +kernel
theorem dX3_state_14 : decode cX3_state 14 = .ok (.if_icmp .ge 25, 3) := by decide +kernel
theorem dX3_state_17 : decode cX3_state 17 = .ok (.aload_n 0, 1) := by decide +kernel
theorem dX3_state_18 : decode cX3_state 18 = .ok (.iload_n 3, 1) := by decide +kernel
theorem dX3_state_19 : decode cX3_state 19 = .ok (.invokevirtual 122, 3) := by decide +kernel
theorem dX3_state_22 : decode cX3_state 22 = .ok (.ifCond .eq 9, 3) := by decide +kernel
theorem dX3_state_25 : decode cX3_state 25 = .ok (.iload_n 2, 1) := by decide +kernel
theorem dX3_state_26 : decode cX3_state 26 = .ok (.iconst 1, 1) := by decide +kernel
theorem dX3_state_27 : decode cX3_state 27 = .ok (.iadd, 1) := by decide +kernel
theorem dX3_state_28 : decode cX3_state 28 = .ok (.goto 4, 3) := by decide +kernel
theorem dX3_state_31 : decode cX3_state 31 = .ok (.iload_n 2, 1) := by decide +kernel
theorem dX3_state_32 : decode cX3_state 32 = .ok (.istore_n 2, 1) := by decide +kernel
theorem dX3_state_33 : decode cX3_state 33 = .ok (.iinc 3 1, 3) := by decide +kernel
theorem dX3_state_36 : decode cX3_state 36 = .ok (.goto (-27), 3) := by decide +kernel
theorem dX3_state_39 : decode cX3_state 39 = .ok (.iload_n 1, 1) := by decide +kernel
theorem dX3_state_40 : decode cX3_state 40 = .ok (.ifCond .ne 10, 3) := by decide +kernel
theorem dX3_state_43 : decode cX3_state 43 = .ok (.aload_n 0, 1) := by decide +kernel
theorem dX3_state_44 : decode cX3_state 44 = .ok (.getfield 59, 3) := by decide +kernel
theorem dX3_state_47 : decode cX3_state 47 = .ok (.goto 64, 3) := by decide +kernel
theorem dX3_state_50 : decode cX3_state 50 = .ok (.iload_n 1, 1) := by decide +kernel
theorem dX3_state_51 : decode cX3_state 51 = .ok (.iconst 1, 1) := by decide +kernel
theorem dX3_state_52 : decode cX3_state 52 = .ok (.if_icmp .ne 7, 3) := by decide +kernel
theorem dX3_state_55 : decode cX3_state 55 = .ok (.iload_n 2, 1) := by decide +kernel
theorem dX3_state_56 : decode cX3_state 56 = .ok (.goto 55, 3) := by decide +kernel
theorem dX3_state_59 : decode cX3_state 59 = .ok (.iload_n 1, 1) := by decide +kernel
theorem dX3_state_60 : decode cX3_state 60 = .ok (.iconst 2, 1) := by decide +kernel
theorem dX3_state_61 : decode cX3_state 61 = .ok (.if_icmp .ne 13, 3) := by decide +kernel
theorem dX3_state_64 : decode cX3_state 64 = .ok (.bipush 64, 2) := by decide +kernel
theorem dX3_state_66 : decode cX3_state 66 = .ok (.aload_n 0, 1) := by decide +kernel
theorem dX3_state_67 : decode cX3_state 67 = .ok (.invokevirtual 131, 3) := by decide +kernel
theorem dX3_state_70 : decode cX3_state 70 = .ok (.isub, 1) := by decide +kernel
theorem dX3_state_71 : decode cX3_state 71 = .ok (.goto 40, 3) := by decide +kernel
theorem dX3_state_74 : decode cX3_state 74 = .ok (.iload_n 1, 1) := by decide +kernel
theorem dX3_state_75 : decode cX3_state 75 = .ok (.iconst 3, 1) := by decide +kernel
theorem dX3_state_76 : decode cX3_state 76 = .ok (.if_icmp .ne 10, 3) := by decide +kernel
theorem dX3_state_79 : decode cX3_state 79 = .ok (.aload_n 0, 1) := by decide +kernel
theorem dX3_state_80 : decode cX3_state 80 = .ok (.getfield 134, 3) := by decide +kernel
theorem dX3_state_83 : decode cX3_state 83 = .ok (.goto 28, 3) := by decide +kernel
theorem dX3_state_86 : decode cX3_state 86 = .ok (.iload_n 1, 1) := by decide +kernel
theorem dX3_state_87 : decode cX3_state 87 = .ok (.iconst 4, 1) := by decide +kernel
theorem dX3_state_88 : decode cX3_state 88 = .ok (.if_icmp .ne 10, 3) := by decide +kernel
theorem dX3_state_91 : decode cX3_state 91 = .ok (.aload_n 0, 1) := by decide +kernel
theorem dX3_state_92 : decode cX3_state 92 = .ok (.getfield 99, 3) := by decide +kernel
theorem dX3_state_95 : decode cX3_state 95 = .ok (.goto 16, 3) := by decide +kernel
theorem dX3_state_98 : decode cX3_state 98 = .ok (.iload_n 1, 1) := by decide +kernel
theorem dX3_state_99 : decode cX3_state 99 = .ok (.iconst 5, 1) := by decide +kernel
theorem dX3_state_100 : decode cX3_state 100 = .ok (.if_icmp .ne 10, 3) := by decide +kernel
theorem dX3_state_103 : decode cX3_state 103 = .ok (.aload_n 0, 1) := by decide +kernel
theorem dX3_state_104 : decode cX3_state 104 = .ok (.getfield 109, 3) := by decide +kernel
theorem dX3_state_107 : decode cX3_state 107 = .ok (.goto 4, 3) := by decide +kernel
theorem dX3_state_110 : decode cX3_state 110 = .ok (.iconst (-1), 1) := by decide +kernel
theorem dX3_state_111 : decode cX3_state 111 = .ok (.ireturn, 1) := by decide +kernel
