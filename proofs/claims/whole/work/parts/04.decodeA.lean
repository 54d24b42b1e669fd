/-! decode rows: Listing, Tree. By wip/names.py. -/
theorem dX0_init_0 : decode cX0_init 0 = .ok (.aload_n 0, 1) := by decide +kernel
theorem dX0_init_1 : decode cX0_init 1 = .ok (.invokespecial 3, 3) := by decide +kernel
theorem dX0_init_4 : decode cX0_init 4 = .ok (.aload_n 0, 1) := by decide +kernel
theorem dX0_init_5 : decode cX0_init 5 = .ok (.bipush 48, 2) := by decide +kernel
theorem dX0_init_7 : decode cX0_init 7 = .ok (.newarray .int, 2) := by decide +kernel
theorem dX0_init_9 : decode cX0_init 9 = .ok (.putfield 9, 3) := by decide +kernel
theorem dX0_init_12 : decode cX0_init 12 = .ok (.return_, 1) := by decide +kernel
theorem dX0_size_0 : decode cX0_size 0 = .ok (.aload_n 0, 1) := by decide +kernel
theorem dX0_size_1 : decode cX0_size 1 = .ok (.getfield 15, 3) := by decide +kernel
theorem dX0_size_4 : decode cX0_size 4 = .ok (.aload_n 0, 1) := by decide +kernel
theorem dX0_size_5 : decode cX0_size 5 = .ok (.getfield 19, 3) := by decide +kernel
theorem dX0_size_8 : decode cX0_size 8 = .ok (.isub, 1) := by decide +kernel
theorem dX0_size_9 : decode cX0_size 9 = .ok (.ireturn, 1) := by decide +kernel
theorem dX0_clear_0 : decode cX0_clear 0 = .ok (.aload_n 0, 1) := by decide +kernel
theorem dX0_clear_1 : decode cX0_clear 1 = .ok (.iconst 0, 1) := by decide +kernel
theorem dX0_clear_2 : decode cX0_clear 2 = .ok (.putfield 19, 3) := by decide +kernel
theorem dX0_clear_5 : decode cX0_clear 5 = .ok (.aload_n 0, 1) := by decide +kernel
theorem dX0_clear_6 : decode cX0_clear 6 = .ok (.iconst 0, 1) := by decide +kernel
theorem dX0_clear_7 : decode cX0_clear 7 = .ok (.putfield 15, 3) := by decide +kernel
theorem dX0_clear_10 : decode cX0_clear 10 = .ok (.return_, 1) := by decide +kernel
theorem dX0_insert_0 : decode cX0_insert 0 = .ok (.aload_n 0, 1) := by decide +kernel
theorem dX0_insert_1 : decode cX0_insert 1 = .ok (.getfield 15, 3) := by decide +kernel
theorem dX0_insert_4 : decode cX0_insert 4 = .ok (.istore_n 2, 1) := by decide +kernel
theorem dX0_insert_5 : decode cX0_insert 5 = .ok (.iload_n 2, 1) := by decide +kernel
theorem dX0_insert_6 : decode cX0_insert 6 = .ok (.ifCond .le 35, 3) := by decide +kernel
theorem dX0_insert_9 : decode cX0_insert 9 = .ok (.aload_n 0, 1) := by decide +kernel
theorem dX0_insert_10 : decode cX0_insert 10 = .ok (.getfield 9, 3) := by decide +kernel
theorem dX0_insert_13 : decode cX0_insert 13 = .ok (.iload_n 2, 1) := by decide +kernel
theorem dX0_insert_14 : decode cX0_insert 14 = .ok (.iconst 1, 1) := by decide +kernel
theorem dX0_insert_15 : decode cX0_insert 15 = .ok (.isub, 1) := by decide +kernel
theorem dX0_insert_16 : decode cX0_insert 16 = .ok (.iaload, 1) := by decide +kernel
theorem dX0_insert_17 : decode cX0_insert 17 = .ok (.iload_n 1, 1) := by decide +kernel
theorem dX0_insert_18 : decode cX0_insert 18 = .ok (.if_icmp .le 23, 3) := by decide +kernel
theorem dX0_insert_21 : decode cX0_insert 21 = .ok (.aload_n 0, 1) := by decide +kernel
theorem dX0_insert_22 : decode cX0_insert 22 = .ok (.getfield 9, 3) := by decide +kernel
theorem dX0_insert_25 : decode cX0_insert 25 = .ok (.iload_n 2, 1) := by decide +kernel
theorem dX0_insert_26 : decode cX0_insert 26 = .ok (.aload_n 0, 1) := by decide +kernel
theorem dX0_insert_27 : decode cX0_insert 27 = .ok (.getfield 9, 3) := by decide +kernel
theorem dX0_insert_30 : decode cX0_insert 30 = .ok (.iload_n 2, 1) := by decide +kernel
theorem dX0_insert_31 : decode cX0_insert 31 = .ok (.iconst 1, 1) := by decide +kernel
theorem dX0_insert_32 : decode cX0_insert 32 = .ok (.isub, 1) := by decide +kernel
theorem dX0_insert_33 : decode cX0_insert 33 = .ok (.iaload, 1) := by decide +kernel
theorem dX0_insert_34 : decode cX0_insert 34 = .ok (.iastore, 1) := by decide +kernel
theorem dX0_insert_35 : decode cX0_insert 35 = .ok (.iinc 2 (-1), 3) := by decide +kernel
theorem dX0_insert_38 : decode cX0_insert 38 = .ok (.goto (-33), 3) := by decide +kernel
theorem dX0_insert_41 : decode cX0_insert 41 = .ok (.aload_n 0, 1) := by decide +kernel
theorem dX0_insert_42 : decode cX0_insert 42 = .ok (.getfield 9, 3) := by decide +kernel
theorem dX0_insert_45 : decode cX0_insert 45 = .ok (.iload_n 2, 1) := by decide +kernel
theorem dX0_insert_46 : decode cX0_insert 46 = .ok (.iload_n 1, 1) := by decide +kernel
theorem dX0_insert_47 : decode cX0_insert 47 = .ok (.iastore, 1) := by decide +kernel
theorem dX0_insert_48 : decode cX0_insert 48 = .ok (.aload_n 0, 1) := by decide +kernel
theorem dX0_insert_49 : decode cX0_insert 49 = .ok (.dup, 1) := by decide +kernel
theorem dX0_insert_50 : decode cX0_insert 50 = .ok (.getfield 15, 3) := by decide +kernel
theorem dX0_insert_53 : decode cX0_insert 53 = .ok (.iconst 1, 1) := by decide +kernel
theorem dX0_insert_54 : decode cX0_insert 54 = .ok (.iadd, 1) := by decide +kernel
theorem dX0_insert_55 : decode cX0_insert 55 = .ok (.putfield 15, 3) := by decide +kernel
theorem dX0_insert_58 : decode cX0_insert 58 = .ok (.return_, 1) := by decide +kernel
theorem dX0_takeFirst_0 : decode cX0_takeFirst 0 = .ok (.aload_n 0, 1) := by decide +kernel
theorem dX0_takeFirst_1 : decode cX0_takeFirst 1 = .ok (.getfield 19, 3) := by decide +kernel
theorem dX0_takeFirst_4 : decode cX0_takeFirst 4 = .ok (.aload_n 0, 1) := by decide +kernel
theorem dX0_takeFirst_5 : decode cX0_takeFirst 5 = .ok (.getfield 15, 3) := by decide +kernel
theorem dX0_takeFirst_8 : decode cX0_takeFirst 8 = .ok (.if_icmp .lt 13, 3) := by decide +kernel
theorem dX0_takeFirst_11 : decode cX0_takeFirst 11 = .ok (.new 22, 3) := by decide +kernel
theorem dX0_takeFirst_14 : decode cX0_takeFirst 14 = .ok (.dup, 1) := by decide +kernel
theorem dX0_takeFirst_15 : decode cX0_takeFirst 15 = .ok (.ldc 24, 2) := by decide +kernel
theorem dX0_takeFirst_17 : decode cX0_takeFirst 17 = .ok (.invokespecial 26, 3) := by decide +kernel
theorem dX0_takeFirst_20 : decode cX0_takeFirst 20 = .ok (.athrow, 1) := by decide +kernel
theorem dX0_takeFirst_21 : decode cX0_takeFirst 21 = .ok (.aload_n 0, 1) := by decide +kernel
theorem dX0_takeFirst_22 : decode cX0_takeFirst 22 = .ok (.getfield 9, 3) := by decide +kernel
theorem dX0_takeFirst_25 : decode cX0_takeFirst 25 = .ok (.aload_n 0, 1) := by decide +kernel
theorem dX0_takeFirst_26 : decode cX0_takeFirst 26 = .ok (.getfield 19, 3) := by decide +kernel
theorem dX0_takeFirst_29 : decode cX0_takeFirst 29 = .ok (.iaload, 1) := by decide +kernel
theorem dX0_takeFirst_30 : decode cX0_takeFirst 30 = .ok (.istore_n 1, 1) := by decide +kernel
theorem dX0_takeFirst_31 : decode cX0_takeFirst 31 = .ok (.aload_n 0, 1) := by decide +kernel
theorem dX0_takeFirst_32 : decode cX0_takeFirst 32 = .ok (.dup, 1) := by decide +kernel
theorem dX0_takeFirst_33 : decode cX0_takeFirst 33 = .ok (.getfield 19, 3) := by decide +kernel
theorem dX0_takeFirst_36 : decode cX0_takeFirst 36 = .ok (.iconst 1, 1) := by decide +kernel
theorem dX0_takeFirst_37 : decode cX0_takeFirst 37 = .ok (.iadd, 1) := by decide +kernel
theorem dX0_takeFirst_38 : decode cX0_takeFirst 38 = .ok (.putfield 19, 3) := by decide +kernel
theorem dX0_takeFirst_41 : decode cX0_takeFirst 41 = .ok (.iload_n 1, 1) := by decide +kernel
theorem dX0_takeFirst_42 : decode cX0_takeFirst 42 = .ok (.ireturn, 1) := by decide +kernel
theorem dX1_init_0 : decode cX1_init 0 = .ok (.aload_n 0, 1) := by decide +kernel
theorem dX1_init_1 : decode cX1_init 1 = .ok (.invokespecial 3, 3) := by decide +kernel
theorem dX1_init_4 : decode cX1_init 4 = .ok (.aload_n 0, 1) := by decide +kernel
theorem dX1_init_5 : decode cX1_init 5 = .ok (.bipush 48, 2) := by decide +kernel
theorem dX1_init_7 : decode cX1_init 7 = .ok (.newarray .int, 2) := by decide +kernel
theorem dX1_init_9 : decode cX1_init 9 = .ok (.putfield 9, 3) := by decide +kernel
theorem dX1_init_12 : decode cX1_init 12 = .ok (.aload_n 0, 1) := by decide +kernel
theorem dX1_init_13 : decode cX1_init 13 = .ok (.bipush 48, 2) := by decide +kernel
theorem dX1_init_15 : decode cX1_init 15 = .ok (.newarray .int, 2) := by decide +kernel
theorem dX1_init_17 : decode cX1_init 17 = .ok (.putfield 15, 3) := by decide +kernel
theorem dX1_init_20 : decode cX1_init 20 = .ok (.aload_n 0, 1) := by decide +kernel
theorem dX1_init_21 : decode cX1_init 21 = .ok (.bipush 48, 2) := by decide +kernel
theorem dX1_init_23 : decode cX1_init 23 = .ok (.newarray .int, 2) := by decide +kernel
theorem dX1_init_25 : decode cX1_init 25 = .ok (.putfield 18, 3) := by decide +kernel
theorem dX1_init_28 : decode cX1_init 28 = .ok (.aload_n 0, 1) := by decide +kernel
theorem dX1_init_29 : decode cX1_init 29 = .ok (.bipush 48, 2) := by decide +kernel
theorem dX1_init_31 : decode cX1_init 31 = .ok (.newarray .int, 2) := by decide +kernel
theorem dX1_init_33 : decode cX1_init 33 = .ok (.putfield 21, 3) := by decide +kernel
theorem dX1_init_36 : decode cX1_init 36 = .ok (.aload_n 0, 1) := by decide +kernel
theorem dX1_init_37 : decode cX1_init 37 = .ok (.bipush 48, 2) := by decide +kernel
theorem dX1_init_39 : decode cX1_init 39 = .ok (.newarray .int, 2) := by decide +kernel
theorem dX1_init_41 : decode cX1_init 41 = .ok (.putfield 24, 3) := by decide +kernel
theorem dX1_init_44 : decode cX1_init 44 = .ok (.aload_n 0, 1) := by decide +kernel
theorem dX1_init_45 : decode cX1_init 45 = .ok (.bipush 48, 2) := by decide +kernel
theorem dX1_init_47 : decode cX1_init 47 = .ok (.newarray .int, 2) := by decide +kernel
theorem dX1_init_49 : decode cX1_init 49 = .ok (.putfield 27, 3) := by decide +kernel
theorem dX1_init_52 : decode cX1_init 52 = .ok (.aload_n 0, 1) := by decide +kernel
theorem dX1_init_53 : decode cX1_init 53 = .ok (.bipush 48, 2) := by decide +kernel
theorem dX1_init_55 : decode cX1_init 55 = .ok (.newarray .int, 2) := by decide +kernel
theorem dX1_init_57 : decode cX1_init 57 = .ok (.putfield 30, 3) := by decide +kernel
theorem dX1_init_60 : decode cX1_init 60 = .ok (.aload_n 0, 1) := by decide +kernel
theorem dX1_init_61 : decode cX1_init 61 = .ok (.bipush 48, 2) := by decide +kernel
theorem dX1_init_63 : decode cX1_init 63 = .ok (.newarray .boolean, 2) := by decide +kernel
theorem dX1_init_65 : decode cX1_init 65 = .ok (.putfield 33, 3) := by decide +kernel
theorem dX1_init_68 : decode cX1_init 68 = .ok (.return_, 1) := by decide +kernel
theorem dX1_size_0 : decode cX1_size 0 = .ok (.aload_n 0, 1) := by decide +kernel
theorem dX1_size_1 : decode cX1_size 1 = .ok (.getfield 37, 3) := by decide +kernel
theorem dX1_size_4 : decode cX1_size 4 = .ok (.ireturn, 1) := by decide +kernel
theorem dX1_idOf_0 : decode cX1_idOf 0 = .ok (.aload_n 0, 1) := by decide +kernel
theorem dX1_idOf_1 : decode cX1_idOf 1 = .ok (.getfield 9, 3) := by decide +kernel
theorem dX1_idOf_4 : decode cX1_idOf 4 = .ok (.iload_n 1, 1) := by decide +kernel
theorem dX1_idOf_5 : decode cX1_idOf 5 = .ok (.iaload, 1) := by decide +kernel
theorem dX1_idOf_6 : decode cX1_idOf 6 = .ok (.ireturn, 1) := by decide +kernel
theorem dX1_xOf_0 : decode cX1_xOf 0 = .ok (.aload_n 0, 1) := by decide +kernel
theorem dX1_xOf_1 : decode cX1_xOf 1 = .ok (.getfield 15, 3) := by decide +kernel
theorem dX1_xOf_4 : decode cX1_xOf 4 = .ok (.iload_n 1, 1) := by decide +kernel
theorem dX1_xOf_5 : decode cX1_xOf 5 = .ok (.iaload, 1) := by decide +kernel
theorem dX1_xOf_6 : decode cX1_xOf 6 = .ok (.ireturn, 1) := by decide +kernel
theorem dX1_yOf_0 : decode cX1_yOf 0 = .ok (.aload_n 0, 1) := by decide +kernel
theorem dX1_yOf_1 : decode cX1_yOf 1 = .ok (.getfield 18, 3) := by decide +kernel
theorem dX1_yOf_4 : decode cX1_yOf 4 = .ok (.iload_n 1, 1) := by decide +kernel
theorem dX1_yOf_5 : decode cX1_yOf 5 = .ok (.iaload, 1) := by decide +kernel
theorem dX1_yOf_6 : decode cX1_yOf 6 = .ok (.ireturn, 1) := by decide +kernel
theorem dX1_zOf_0 : decode cX1_zOf 0 = .ok (.aload_n 0, 1) := by decide +kernel
theorem dX1_zOf_1 : decode cX1_zOf 1 = .ok (.getfield 21, 3) := by decide +kernel
theorem dX1_zOf_4 : decode cX1_zOf 4 = .ok (.iload_n 1, 1) := by decide +kernel
theorem dX1_zOf_5 : decode cX1_zOf 5 = .ok (.iaload, 1) := by decide +kernel
theorem dX1_zOf_6 : decode cX1_zOf 6 = .ok (.ireturn, 1) := by decide +kernel
theorem dX1_colourOf_0 : decode cX1_colourOf 0 = .ok (.aload_n 0, 1) := by decide +kernel
theorem dX1_colourOf_1 : decode cX1_colourOf 1 = .ok (.getfield 24, 3) := by decide +kernel
theorem dX1_colourOf_4 : decode cX1_colourOf 4 = .ok (.iload_n 1, 1) := by decide +kernel
theorem dX1_colourOf_5 : decode cX1_colourOf 5 = .ok (.iaload, 1) := by decide +kernel
theorem dX1_colourOf_6 : decode cX1_colourOf 6 = .ok (.ireturn, 1) := by decide +kernel
theorem dX1_depthOf_0 : decode cX1_depthOf 0 = .ok (.aload_n 0, 1) := by decide +kernel
theorem dX1_depthOf_1 : decode cX1_depthOf 1 = .ok (.getfield 27, 3) := by decide +kernel
theorem dX1_depthOf_4 : decode cX1_depthOf 4 = .ok (.iload_n 1, 1) := by decide +kernel
theorem dX1_depthOf_5 : decode cX1_depthOf 5 = .ok (.iaload, 1) := by decide +kernel
theorem dX1_depthOf_6 : decode cX1_depthOf 6 = .ok (.ireturn, 1) := by decide +kernel
theorem dX1_setColour_0 : decode cX1_setColour 0 = .ok (.aload_n 0, 1) := by decide +kernel
theorem dX1_setColour_1 : decode cX1_setColour 1 = .ok (.getfield 24, 3) := by decide +kernel
theorem dX1_setColour_4 : decode cX1_setColour 4 = .ok (.iload_n 1, 1) := by decide +kernel
theorem dX1_setColour_5 : decode cX1_setColour 5 = .ok (.iload_n 2, 1) := by decide +kernel
theorem dX1_setColour_6 : decode cX1_setColour 6 = .ok (.iastore, 1) := by decide +kernel
theorem dX1_setColour_7 : decode cX1_setColour 7 = .ok (.return_, 1) := by decide +kernel
theorem dX1_find_0 : decode cX1_find 0 = .ok (.iconst 0, 1) := by decide +kernel
theorem dX1_find_1 : decode cX1_find 1 = .ok (.istore_n 2, 1) := by decide +kernel
theorem dX1_find_2 : decode cX1_find 2 = .ok (.iload_n 2, 1) := by decide +kernel
theorem dX1_find_3 : decode cX1_find 3 = .ok (.aload_n 0, 1) := by decide +kernel
theorem dX1_find_4 : decode cX1_find 4 = .ok (.getfield 37, 3) := by decide +kernel
theorem dX1_find_7 : decode cX1_find 7 = .ok (.if_icmp .ge 21, 3) := by decide +kernel
theorem dX1_find_10 : decode cX1_find 10 = .ok (.aload_n 0, 1) := by decide +kernel
theorem dX1_find_11 : decode cX1_find 11 = .ok (.getfield 9, 3) := by decide +kernel
theorem dX1_find_14 : decode cX1_find 14 = .ok (.iload_n 2, 1) := by decide +kernel
theorem dX1_find_15 : decode cX1_find 15 = .ok (.iaload, 1) := by decide +kernel
theorem dX1_find_16 : decode cX1_find 16 = .ok (.iload_n 1, 1) := by decide +kernel
theorem dX1_find_17 : decode cX1_find 17 = .ok (.if_icmp .ne 5, 3) := by decide +kernel
theorem dX1_find_20 : decode cX1_find 20 = .ok (.iload_n 2, 1) := by decide +kernel
theorem dX1_find_21 : decode cX1_find 21 = .ok (.ireturn, 1) := by decide +kernel
theorem dX1_find_22 : decode cX1_find 22 = .ok (.iinc 2 1, 3) := by decide +kernel
theorem dX1_find_25 : decode cX1_find 25 = .ok (.goto (-23), 3) := by decide +kernel
theorem dX1_find_28 : decode cX1_find 28 = .ok (.iconst (-1), 1) := by decide +kernel
theorem dX1_find_29 : decode cX1_find 29 = .ok (.ireturn, 1) := by decide +kernel
theorem dX1_findKept_0 : decode cX1_findKept 0 = .ok (.iconst 0, 1) := by decide +kernel
theorem dX1_findKept_1 : decode cX1_findKept 1 = .ok (.istore 6, 2) := by decide +kernel
theorem dX1_findKept_3 : decode cX1_findKept 3 = .ok (.iload 6, 2) := by decide +kernel
theorem dX1_findKept_5 : decode cX1_findKept 5 = .ok (.aload_n 0, 1) := by decide +kernel
theorem dX1_findKept_6 : decode cX1_findKept 6 = .ok (.getfield 37, 3) := by decide +kernel
theorem dX1_findKept_9 : decode cX1_findKept 9 = .ok (.if_icmp .ge 49, 3) := by decide +kernel
theorem dX1_findKept_12 : decode cX1_findKept 12 = .ok (.aload_n 0, 1) := by decide +kernel
theorem dX1_findKept_13 : decode cX1_findKept 13 = .ok (.getfield 30, 3) := by decide +kernel
theorem dX1_findKept_16 : decode cX1_findKept 16 = .ok (.iload 6, 2) := by decide +kernel
theorem dX1_findKept_18 : decode cX1_findKept 18 = .ok (.iaload, 1) := by decide +kernel
theorem dX1_findKept_19 : decode cX1_findKept 19 = .ok (.iload 5, 2) := by decide +kernel
theorem dX1_findKept_21 : decode cX1_findKept 21 = .ok (.if_icmp .ne 31, 3) := by decide +kernel
theorem dX1_findKept_24 : decode cX1_findKept 24 = .ok (.aload_n 0, 1) := by decide +kernel
theorem dX1_findKept_25 : decode cX1_findKept 25 = .ok (.getfield 27, 3) := by decide +kernel
theorem dX1_findKept_28 : decode cX1_findKept 28 = .ok (.iload 6, 2) := by decide +kernel
theorem dX1_findKept_30 : decode cX1_findKept 30 = .ok (.iaload, 1) := by decide +kernel
theorem dX1_findKept_31 : decode cX1_findKept 31 = .ok (.iload_n 1, 1) := by decide +kernel
theorem dX1_findKept_32 : decode cX1_findKept 32 = .ok (.if_icmp .ne 20, 3) := by decide +kernel
theorem dX1_findKept_35 : decode cX1_findKept 35 = .ok (.aload_n 0, 1) := by decide +kernel
theorem dX1_findKept_36 : decode cX1_findKept 36 = .ok (.iload 6, 2) := by decide +kernel
theorem dX1_findKept_38 : decode cX1_findKept 38 = .ok (.iload_n 1, 1) := by decide +kernel
theorem dX1_findKept_39 : decode cX1_findKept 39 = .ok (.iload_n 2, 1) := by decide +kernel
theorem dX1_findKept_40 : decode cX1_findKept 40 = .ok (.iload_n 3, 1) := by decide +kernel
theorem dX1_findKept_41 : decode cX1_findKept 41 = .ok (.iload 4, 2) := by decide +kernel
theorem dX1_findKept_43 : decode cX1_findKept 43 = .ok (.invokevirtual 41, 3) := by decide +kernel
theorem dX1_findKept_46 : decode cX1_findKept 46 = .ok (.ifCond .eq 6, 3) := by decide +kernel
theorem dX1_findKept_49 : decode cX1_findKept 49 = .ok (.iload 6, 2) := by decide +kernel
theorem dX1_findKept_51 : decode cX1_findKept 51 = .ok (.ireturn, 1) := by decide +kernel
theorem dX1_findKept_52 : decode cX1_findKept 52 = .ok (.iinc 6 1, 3) := by decide +kernel
theorem dX1_findKept_55 : decode cX1_findKept 55 = .ok (.goto (-52), 3) := by decide +kernel
theorem dX1_findKept_58 : decode cX1_findKept 58 = .ok (.iconst (-1), 1) := by decide +kernel
theorem dX1_findKept_59 : decode cX1_findKept 59 = .ok (.ireturn, 1) := by decide +kernel
theorem dX1_insert_0 : decode cX1_insert 0 = .ok (.aload_n 0, 1) := by decide +kernel
theorem dX1_insert_1 : decode cX1_insert 1 = .ok (.iload_n 1, 1) := by decide +kernel
theorem dX1_insert_2 : decode cX1_insert 2 = .ok (.invokestatic 45, 3) := by decide +kernel
theorem dX1_insert_5 : decode cX1_insert 5 = .ok (.invokevirtual 49, 3) := by decide +kernel
theorem dX1_insert_8 : decode cX1_insert 8 = .ok (.istore 6, 2) := by decide +kernel
theorem dX1_insert_10 : decode cX1_insert 10 = .ok (.aload_n 0, 1) := by decide +kernel
theorem dX1_insert_11 : decode cX1_insert 11 = .ok (.iload 6, 2) := by decide +kernel
theorem dX1_insert_13 : decode cX1_insert 13 = .ok (.iload 6, 2) := by decide +kernel
theorem dX1_insert_15 : decode cX1_insert 15 = .ok (.iconst 1, 1) := by decide +kernel
theorem dX1_insert_16 : decode cX1_insert 16 = .ok (.iadd, 1) := by decide +kernel
theorem dX1_insert_17 : decode cX1_insert 17 = .ok (.invokevirtual 53, 3) := by decide +kernel
theorem dX1_insert_20 : decode cX1_insert 20 = .ok (.aload_n 0, 1) := by decide +kernel
theorem dX1_insert_21 : decode cX1_insert 21 = .ok (.getfield 9, 3) := by decide +kernel
theorem dX1_insert_24 : decode cX1_insert 24 = .ok (.iload 6, 2) := by decide +kernel
theorem dX1_insert_26 : decode cX1_insert 26 = .ok (.iload_n 1, 1) := by decide +kernel
theorem dX1_insert_27 : decode cX1_insert 27 = .ok (.iastore, 1) := by decide +kernel
theorem dX1_insert_28 : decode cX1_insert 28 = .ok (.aload_n 0, 1) := by decide +kernel
theorem dX1_insert_29 : decode cX1_insert 29 = .ok (.getfield 15, 3) := by decide +kernel
theorem dX1_insert_32 : decode cX1_insert 32 = .ok (.iload 6, 2) := by decide +kernel
theorem dX1_insert_34 : decode cX1_insert 34 = .ok (.iload_n 2, 1) := by decide +kernel
theorem dX1_insert_35 : decode cX1_insert 35 = .ok (.iastore, 1) := by decide +kernel
theorem dX1_insert_36 : decode cX1_insert 36 = .ok (.aload_n 0, 1) := by decide +kernel
theorem dX1_insert_37 : decode cX1_insert 37 = .ok (.getfield 18, 3) := by decide +kernel
theorem dX1_insert_40 : decode cX1_insert 40 = .ok (.iload 6, 2) := by decide +kernel
theorem dX1_insert_42 : decode cX1_insert 42 = .ok (.iload_n 3, 1) := by decide +kernel
theorem dX1_insert_43 : decode cX1_insert 43 = .ok (.iastore, 1) := by decide +kernel
theorem dX1_insert_44 : decode cX1_insert 44 = .ok (.aload_n 0, 1) := by decide +kernel
theorem dX1_insert_45 : decode cX1_insert 45 = .ok (.getfield 21, 3) := by decide +kernel
theorem dX1_insert_48 : decode cX1_insert 48 = .ok (.iload 6, 2) := by decide +kernel
theorem dX1_insert_50 : decode cX1_insert 50 = .ok (.iload 4, 2) := by decide +kernel
theorem dX1_insert_52 : decode cX1_insert 52 = .ok (.iastore, 1) := by decide +kernel
theorem dX1_insert_53 : decode cX1_insert 53 = .ok (.aload_n 0, 1) := by decide +kernel
theorem dX1_insert_54 : decode cX1_insert 54 = .ok (.getfield 24, 3) := by decide +kernel
theorem dX1_insert_57 : decode cX1_insert 57 = .ok (.iload 6, 2) := by decide +kernel
theorem dX1_insert_59 : decode cX1_insert 59 = .ok (.iload 5, 2) := by decide +kernel
theorem dX1_insert_61 : decode cX1_insert 61 = .ok (.iastore, 1) := by decide +kernel
theorem dX1_insert_62 : decode cX1_insert 62 = .ok (.aload_n 0, 1) := by decide +kernel
theorem dX1_insert_63 : decode cX1_insert 63 = .ok (.dup, 1) := by decide +kernel
theorem dX1_insert_64 : decode cX1_insert 64 = .ok (.getfield 37, 3) := by decide +kernel
theorem dX1_insert_67 : decode cX1_insert 67 = .ok (.iconst 1, 1) := by decide +kernel
theorem dX1_insert_68 : decode cX1_insert 68 = .ok (.iadd, 1) := by decide +kernel
theorem dX1_insert_69 : decode cX1_insert 69 = .ok (.putfield 37, 3) := by decide +kernel
theorem dX1_insert_72 : decode cX1_insert 72 = .ok (.aload_n 0, 1) := by decide +kernel
theorem dX1_insert_73 : decode cX1_insert 73 = .ok (.iload 6, 2) := by decide +kernel
theorem dX1_insert_75 : decode cX1_insert 75 = .ok (.invokevirtual 57, 3) := by decide +kernel
theorem dX1_insert_78 : decode cX1_insert 78 = .ok (.iload 6, 2) := by decide +kernel
theorem dX1_insert_80 : decode cX1_insert 80 = .ok (.ireturn, 1) := by decide +kernel
theorem dX1_delete_0 : decode cX1_delete 0 = .ok (.aload_n 0, 1) := by decide +kernel
theorem dX1_delete_1 : decode cX1_delete 1 = .ok (.iload_n 1, 1) := by decide +kernel
theorem dX1_delete_2 : decode cX1_delete 2 = .ok (.iconst 1, 1) := by decide +kernel
theorem dX1_delete_3 : decode cX1_delete 3 = .ok (.iadd, 1) := by decide +kernel
theorem dX1_delete_4 : decode cX1_delete 4 = .ok (.iload_n 1, 1) := by decide +kernel
theorem dX1_delete_5 : decode cX1_delete 5 = .ok (.invokevirtual 53, 3) := by decide +kernel
theorem dX1_delete_8 : decode cX1_delete 8 = .ok (.aload_n 0, 1) := by decide +kernel
theorem dX1_delete_9 : decode cX1_delete 9 = .ok (.dup, 1) := by decide +kernel
theorem dX1_delete_10 : decode cX1_delete 10 = .ok (.getfield 37, 3) := by decide +kernel
theorem dX1_delete_13 : decode cX1_delete 13 = .ok (.iconst 1, 1) := by decide +kernel
theorem dX1_delete_14 : decode cX1_delete 14 = .ok (.isub, 1) := by decide +kernel
theorem dX1_delete_15 : decode cX1_delete 15 = .ok (.putfield 37, 3) := by decide +kernel
theorem dX1_delete_18 : decode cX1_delete 18 = .ok (.aload_n 0, 1) := by decide +kernel
theorem dX1_delete_19 : decode cX1_delete 19 = .ok (.iload_n 1, 1) := by decide +kernel
theorem dX1_delete_20 : decode cX1_delete 20 = .ok (.invokevirtual 57, 3) := by decide +kernel
theorem dX1_delete_23 : decode cX1_delete 23 = .ok (.return_, 1) := by decide +kernel
theorem dX1_copyFrom_0 : decode cX1_copyFrom 0 = .ok (.aload_n 1, 1) := by decide +kernel
theorem dX1_copyFrom_1 : decode cX1_copyFrom 1 = .ok (.getfield 9, 3) := by decide +kernel
theorem dX1_copyFrom_4 : decode cX1_copyFrom 4 = .ok (.iconst 0, 1) := by decide +kernel
theorem dX1_copyFrom_5 : decode cX1_copyFrom 5 = .ok (.aload_n 0, 1) := by decide +kernel
theorem dX1_copyFrom_6 : decode cX1_copyFrom 6 = .ok (.getfield 9, 3) := by decide +kernel
theorem dX1_copyFrom_9 : decode cX1_copyFrom 9 = .ok (.iconst 0, 1) := by decide +kernel
theorem dX1_copyFrom_10 : decode cX1_copyFrom 10 = .ok (.aload_n 1, 1) := by decide +kernel
theorem dX1_copyFrom_11 : decode cX1_copyFrom 11 = .ok (.getfield 37, 3) := by decide +kernel
theorem dX1_copyFrom_14 : decode cX1_copyFrom 14 = .ok (.invokestatic 61, 3) := by decide +kernel
theorem dX1_copyFrom_17 : decode cX1_copyFrom 17 = .ok (.aload_n 1, 1) := by decide +kernel
theorem dX1_copyFrom_18 : decode cX1_copyFrom 18 = .ok (.getfield 15, 3) := by decide +kernel
theorem dX1_copyFrom_21 : decode cX1_copyFrom 21 = .ok (.iconst 0, 1) := by decide +kernel
theorem dX1_copyFrom_22 : decode cX1_copyFrom 22 = .ok (.aload_n 0, 1) := by decide +kernel
theorem dX1_copyFrom_23 : decode cX1_copyFrom 23 = .ok (.getfield 15, 3) := by decide +kernel
theorem dX1_copyFrom_26 : decode cX1_copyFrom 26 = .ok (.iconst 0, 1) := by decide +kernel
theorem dX1_copyFrom_27 : decode cX1_copyFrom 27 = .ok (.aload_n 1, 1) := by decide +kernel
theorem dX1_copyFrom_28 : decode cX1_copyFrom 28 = .ok (.getfield 37, 3) := by decide +kernel
theorem dX1_copyFrom_31 : decode cX1_copyFrom 31 = .ok (.invokestatic 61, 3) := by decide +kernel
theorem dX1_copyFrom_34 : decode cX1_copyFrom 34 = .ok (.aload_n 1, 1) := by decide +kernel
theorem dX1_copyFrom_35 : decode cX1_copyFrom 35 = .ok (.getfield 18, 3) := by decide +kernel
theorem dX1_copyFrom_38 : decode cX1_copyFrom 38 = .ok (.iconst 0, 1) := by decide +kernel
theorem dX1_copyFrom_39 : decode cX1_copyFrom 39 = .ok (.aload_n 0, 1) := by decide +kernel
theorem dX1_copyFrom_40 : decode cX1_copyFrom 40 = .ok (.getfield 18, 3) := by decide +kernel
theorem dX1_copyFrom_43 : decode cX1_copyFrom 43 = .ok (.iconst 0, 1) := by decide +kernel
theorem dX1_copyFrom_44 : decode cX1_copyFrom 44 = .ok (.aload_n 1, 1) := by decide +kernel
theorem dX1_copyFrom_45 : decode cX1_copyFrom 45 = .ok (.getfield 37, 3) := by decide +kernel
theorem dX1_copyFrom_48 : decode cX1_copyFrom 48 = .ok (.invokestatic 61, 3) := by decide +kernel
theorem dX1_copyFrom_51 : decode cX1_copyFrom 51 = .ok (.aload_n 1, 1) := by decide +kernel
theorem dX1_copyFrom_52 : decode cX1_copyFrom 52 = .ok (.getfield 21, 3) := by decide +kernel
theorem dX1_copyFrom_55 : decode cX1_copyFrom 55 = .ok (.iconst 0, 1) := by decide +kernel
theorem dX1_copyFrom_56 : decode cX1_copyFrom 56 = .ok (.aload_n 0, 1) := by decide +kernel
theorem dX1_copyFrom_57 : decode cX1_copyFrom 57 = .ok (.getfield 21, 3) := by decide +kernel
theorem dX1_copyFrom_60 : decode cX1_copyFrom 60 = .ok (.iconst 0, 1) := by decide +kernel
theorem dX1_copyFrom_61 : decode cX1_copyFrom 61 = .ok (.aload_n 1, 1) := by decide +kernel
theorem dX1_copyFrom_62 : decode cX1_copyFrom 62 = .ok (.getfield 37, 3) := by decide +kernel
theorem dX1_copyFrom_65 : decode cX1_copyFrom 65 = .ok (.invokestatic 61, 3) := by decide +kernel
theorem dX1_copyFrom_68 : decode cX1_copyFrom 68 = .ok (.aload_n 1, 1) := by decide +kernel
theorem dX1_copyFrom_69 : decode cX1_copyFrom 69 = .ok (.getfield 24, 3) := by decide +kernel
theorem dX1_copyFrom_72 : decode cX1_copyFrom 72 = .ok (.iconst 0, 1) := by decide +kernel
theorem dX1_copyFrom_73 : decode cX1_copyFrom 73 = .ok (.aload_n 0, 1) := by decide +kernel
theorem dX1_copyFrom_74 : decode cX1_copyFrom 74 = .ok (.getfield 24, 3) := by decide +kernel
theorem dX1_copyFrom_77 : decode cX1_copyFrom 77 = .ok (.iconst 0, 1) := by decide +kernel
theorem dX1_copyFrom_78 : decode cX1_copyFrom 78 = .ok (.aload_n 1, 1) := by decide +kernel
theorem dX1_copyFrom_79 : decode cX1_copyFrom 79 = .ok (.getfield 37, 3) := by decide +kernel
theorem dX1_copyFrom_82 : decode cX1_copyFrom 82 = .ok (.invokestatic 61, 3) := by decide +kernel
theorem dX1_copyFrom_85 : decode cX1_copyFrom 85 = .ok (.aload_n 1, 1) := by decide +kernel
theorem dX1_copyFrom_86 : decode cX1_copyFrom 86 = .ok (.getfield 27, 3) := by decide +kernel
theorem dX1_copyFrom_89 : decode cX1_copyFrom 89 = .ok (.iconst 0, 1) := by decide +kernel
theorem dX1_copyFrom_90 : decode cX1_copyFrom 90 = .ok (.aload_n 0, 1) := by decide +kernel
theorem dX1_copyFrom_91 : decode cX1_copyFrom 91 = .ok (.getfield 27, 3) := by decide +kernel
theorem dX1_copyFrom_94 : decode cX1_copyFrom 94 = .ok (.iconst 0, 1) := by decide +kernel
theorem dX1_copyFrom_95 : decode cX1_copyFrom 95 = .ok (.aload_n 1, 1) := by decide +kernel
theorem dX1_copyFrom_96 : decode cX1_copyFrom 96 = .ok (.getfield 37, 3) := by decide +kernel
theorem dX1_copyFrom_99 : decode cX1_copyFrom 99 = .ok (.invokestatic 61, 3) := by decide +kernel
theorem dX1_copyFrom_102 : decode cX1_copyFrom 102 = .ok (.aload_n 1, 1) := by decide +kernel
theorem dX1_copyFrom_103 : decode cX1_copyFrom 103 = .ok (.getfield 30, 3) := by decide +kernel
theorem dX1_copyFrom_106 : decode cX1_copyFrom 106 = .ok (.iconst 0, 1) := by decide +kernel
theorem dX1_copyFrom_107 : decode cX1_copyFrom 107 = .ok (.aload_n 0, 1) := by decide +kernel
theorem dX1_copyFrom_108 : decode cX1_copyFrom 108 = .ok (.getfield 30, 3) := by decide +kernel
theorem dX1_copyFrom_111 : decode cX1_copyFrom 111 = .ok (.iconst 0, 1) := by decide +kernel
theorem dX1_copyFrom_112 : decode cX1_copyFrom 112 = .ok (.aload_n 1, 1) := by decide +kernel
theorem dX1_copyFrom_113 : decode cX1_copyFrom 113 = .ok (.getfield 37, 3) := by decide +kernel
theorem dX1_copyFrom_116 : decode cX1_copyFrom 116 = .ok (.invokestatic 61, 3) := by decide +kernel
theorem dX1_copyFrom_119 : decode cX1_copyFrom 119 = .ok (.aload_n 0, 1) := by decide +kernel
theorem dX1_copyFrom_120 : decode cX1_copyFrom 120 = .ok (.aload_n 1, 1) := by decide +kernel
theorem dX1_copyFrom_121 : decode cX1_copyFrom 121 = .ok (.getfield 37, 3) := by decide +kernel
theorem dX1_copyFrom_124 : decode cX1_copyFrom 124 = .ok (.putfield 37, 3) := by decide +kernel
theorem dX1_copyFrom_127 : decode cX1_copyFrom 127 = .ok (.return_, 1) := by decide +kernel
theorem dX1_idByDistance_0 : decode cX1_idByDistance 0 = .ok (.ldc2_w 69, 3) := by decide +kernel
theorem dX1_idByDistance_3 : decode cX1_idByDistance 3 = .ok (.lstore 5, 2) := by decide +kernel
theorem dX1_idByDistance_5 : decode cX1_idByDistance 5 = .ok (.iconst 0, 1) := by decide +kernel
theorem dX1_idByDistance_6 : decode cX1_idByDistance 6 = .ok (.istore 7, 2) := by decide +kernel
theorem dX1_idByDistance_8 : decode cX1_idByDistance 8 = .ok (.iload 7, 2) := by decide +kernel
theorem dX1_idByDistance_10 : decode cX1_idByDistance 10 = .ok (.iload 4, 2) := by decide +kernel
theorem dX1_idByDistance_12 : decode cX1_idByDistance 12 = .ok (.if_icmp .ge 20, 3) := by decide +kernel
theorem dX1_idByDistance_15 : decode cX1_idByDistance 15 = .ok (.aload_n 0, 1) := by decide +kernel
theorem dX1_idByDistance_16 : decode cX1_idByDistance 16 = .ok (.lload 5, 2) := by decide +kernel
theorem dX1_idByDistance_18 : decode cX1_idByDistance 18 = .ok (.iload_n 1, 1) := by decide +kernel
theorem dX1_idByDistance_19 : decode cX1_idByDistance 19 = .ok (.iload_n 2, 1) := by decide +kernel
theorem dX1_idByDistance_20 : decode cX1_idByDistance 20 = .ok (.iload_n 3, 1) := by decide +kernel
theorem dX1_idByDistance_21 : decode cX1_idByDistance 21 = .ok (.invokevirtual 71, 3) := by decide +kernel
theorem dX1_idByDistance_24 : decode cX1_idByDistance 24 = .ok (.lstore 5, 2) := by decide +kernel
theorem dX1_idByDistance_26 : decode cX1_idByDistance 26 = .ok (.iinc 7 1, 3) := by decide +kernel
theorem dX1_idByDistance_29 : decode cX1_idByDistance 29 = .ok (.goto (-21), 3) := by decide +kernel
theorem dX1_idByDistance_32 : decode cX1_idByDistance 32 = .ok (.lload 5, 2) := by decide +kernel
theorem dX1_idByDistance_34 : decode cX1_idByDistance 34 = .ok (.l2i, 1) := by decide +kernel
theorem dX1_idByDistance_35 : decode cX1_idByDistance 35 = .ok (.ireturn, 1) := by decide +kernel
theorem dX1_nodes_0 : decode cX1_nodes 0 = .ok (.iconst 0, 1) := by decide +kernel
theorem dX1_nodes_1 : decode cX1_nodes 1 = .ok (.istore_n 1, 1) := by decide +kernel
theorem dX1_nodes_2 : decode cX1_nodes 2 = .ok (.iconst 0, 1) := by decide +kernel
theorem dX1_nodes_3 : decode cX1_nodes 3 = .ok (.istore_n 2, 1) := by decide +kernel
theorem dX1_nodes_4 : decode cX1_nodes 4 = .ok (.iload_n 2, 1) := by decide +kernel
theorem dX1_nodes_5 : decode cX1_nodes 5 = .ok (.aload_n 0, 1) := by decide +kernel
theorem dX1_nodes_6 : decode cX1_nodes 6 = .ok (.getfield 37, 3) := by decide +kernel
theorem dX1_nodes_9 : decode cX1_nodes 9 = .ok (.if_icmp .ge 21, 3) := by decide +kernel
theorem dX1_nodes_12 : decode cX1_nodes 12 = .ok (.aload_n 0, 1) := by decide +kernel
theorem dX1_nodes_13 : decode cX1_nodes 13 = .ok (.getfield 30, 3) := by decide +kernel
theorem dX1_nodes_16 : decode cX1_nodes 16 = .ok (.iload_n 2, 1) := by decide +kernel
theorem dX1_nodes_17 : decode cX1_nodes 17 = .ok (.iaload, 1) := by decide +kernel
theorem dX1_nodes_18 : decode cX1_nodes 18 = .ok (.ifCond .ne 6, 3) := by decide +kernel
theorem dX1_nodes_21 : decode cX1_nodes 21 = .ok (.iinc 1 1, 3) := by decide +kernel
theorem dX1_nodes_24 : decode cX1_nodes 24 = .ok (.iinc 2 1, 3) := by decide +kernel
theorem dX1_nodes_27 : decode cX1_nodes 27 = .ok (.goto (-23), 3) := by decide +kernel
theorem dX1_nodes_30 : decode cX1_nodes 30 = .ok (.iload_n 1, 1) := by decide +kernel
theorem dX1_nodes_31 : decode cX1_nodes 31 = .ok (.ireturn, 1) := by decide +kernel
theorem dX1_pages_0 : decode cX1_pages 0 = .ok (.iconst 0, 1) := by decide +kernel
theorem dX1_pages_1 : decode cX1_pages 1 = .ok (.istore_n 1, 1) := by decide +kernel
theorem dX1_pages_2 : decode cX1_pages 2 = .ok (.iconst 0, 1) := by decide +kernel
theorem dX1_pages_3 : decode cX1_pages 3 = .ok (.istore_n 2, 1) := by decide +kernel
theorem dX1_pages_4 : decode cX1_pages 4 = .ok (.iload_n 2, 1) := by decide +kernel
theorem dX1_pages_5 : decode cX1_pages 5 = .ok (.aload_n 0, 1) := by decide +kernel
theorem dX1_pages_6 : decode cX1_pages 6 = .ok (.getfield 37, 3) := by decide +kernel
theorem dX1_pages_9 : decode cX1_pages 9 = .ok (.if_icmp .ge 20, 3) := by decide +kernel
theorem dX1_pages_12 : decode cX1_pages 12 = .ok (.aload_n 0, 1) := by decide +kernel
theorem dX1_pages_13 : decode cX1_pages 13 = .ok (.iload_n 2, 1) := by decide +kernel
theorem dX1_pages_14 : decode cX1_pages 14 = .ok (.invokevirtual 75, 3) := by decide +kernel
theorem dX1_pages_17 : decode cX1_pages 17 = .ok (.ifCond .eq 6, 3) := by decide +kernel
theorem dX1_pages_20 : decode cX1_pages 20 = .ok (.iinc 1 1, 3) := by decide +kernel
theorem dX1_pages_23 : decode cX1_pages 23 = .ok (.iinc 2 1, 3) := by decide +kernel
theorem dX1_pages_26 : decode cX1_pages 26 = .ok (.goto (-22), 3) := by decide +kernel
theorem dX1_pages_29 : decode cX1_pages 29 = .ok (.iload_n 1, 1) := by decide +kernel
theorem dX1_pages_30 : decode cX1_pages 30 = .ok (.ireturn, 1) := by decide +kernel
theorem dX1_markChanges_0 : decode cX1_markChanges 0 = .ok (.iconst 0, 1) := by decide +kernel
theorem dX1_markChanges_1 : decode cX1_markChanges 1 = .ok (.istore_n 2, 1) := by decide +kernel
theorem dX1_markChanges_2 : decode cX1_markChanges 2 = .ok (.iconst 0, 1) := by decide +kernel
theorem dX1_markChanges_3 : decode cX1_markChanges 3 = .ok (.istore_n 3, 1) := by decide +kernel
theorem dX1_markChanges_4 : decode cX1_markChanges 4 = .ok (.iload_n 3, 1) := by decide +kernel
theorem dX1_markChanges_5 : decode cX1_markChanges 5 = .ok (.aload_n 0, 1) := by decide +kernel
theorem dX1_markChanges_6 : decode cX1_markChanges 6 = .ok (.getfield 37, 3) := by decide +kernel
theorem dX1_markChanges_9 : decode cX1_markChanges 9 = .ok (.if_icmp .ge 41, 3) := by decide +kernel
theorem dX1_markChanges_12 : decode cX1_markChanges 12 = .ok (.aload_n 0, 1) := by decide +kernel
theorem dX1_markChanges_13 : decode cX1_markChanges 13 = .ok (.getfield 33, 3) := by decide +kernel
theorem dX1_markChanges_16 : decode cX1_markChanges 16 = .ok (.iload_n 3, 1) := by decide +kernel
theorem dX1_markChanges_17 : decode cX1_markChanges 17 = .ok (.aload_n 1, 1) := by decide +kernel
theorem dX1_markChanges_18 : decode cX1_markChanges 18 = .ok (.aload_n 0, 1) := by decide +kernel
theorem dX1_markChanges_19 : decode cX1_markChanges 19 = .ok (.iload_n 3, 1) := by decide +kernel
theorem dX1_markChanges_20 : decode cX1_markChanges 20 = .ok (.invokevirtual 79, 3) := by decide +kernel
theorem dX1_markChanges_23 : decode cX1_markChanges 23 = .ok (.ifCond .ne 7, 3) := by decide +kernel
theorem dX1_markChanges_26 : decode cX1_markChanges 26 = .ok (.iconst 1, 1) := by decide +kernel
theorem dX1_markChanges_27 : decode cX1_markChanges 27 = .ok (.goto 4, 3) := by decide +kernel
theorem dX1_markChanges_30 : decode cX1_markChanges 30 = .ok (.iconst 0, 1) := by decide +kernel
theorem dX1_markChanges_31 : decode cX1_markChanges 31 = .ok (.bastore, 1) := by decide +kernel
theorem dX1_markChanges_32 : decode cX1_markChanges 32 = .ok (.aload_n 0, 1) := by decide +kernel
theorem dX1_markChanges_33 : decode cX1_markChanges 33 = .ok (.getfield 33, 3) := by decide +kernel
theorem dX1_markChanges_36 : decode cX1_markChanges 36 = .ok (.iload_n 3, 1) := by decide +kernel
theorem dX1_markChanges_37 : decode cX1_markChanges 37 = .ok (.baload, 1) := by decide +kernel
theorem dX1_markChanges_38 : decode cX1_markChanges 38 = .ok (.ifCond .eq 6, 3) := by decide +kernel
theorem dX1_markChanges_41 : decode cX1_markChanges 41 = .ok (.iinc 2 1, 3) := by decide +kernel
theorem dX1_markChanges_44 : decode cX1_markChanges 44 = .ok (.iinc 3 1, 3) := by decide +kernel
theorem dX1_markChanges_47 : decode cX1_markChanges 47 = .ok (.goto (-43), 3) := by decide +kernel
theorem dX1_markChanges_50 : decode cX1_markChanges 50 = .ok (.iload_n 2, 1) := by decide +kernel
theorem dX1_markChanges_51 : decode cX1_markChanges 51 = .ok (.ireturn, 1) := by decide +kernel
theorem dX1_pagesToWrite_0 : decode cX1_pagesToWrite 0 = .ok (.iconst 0, 1) := by decide +kernel
theorem dX1_pagesToWrite_1 : decode cX1_pagesToWrite 1 = .ok (.istore_n 2, 1) := by decide +kernel
theorem dX1_pagesToWrite_2 : decode cX1_pagesToWrite 2 = .ok (.iconst 0, 1) := by decide +kernel
theorem dX1_pagesToWrite_3 : decode cX1_pagesToWrite 3 = .ok (.istore_n 3, 1) := by decide +kernel
theorem dX1_pagesToWrite_4 : decode cX1_pagesToWrite 4 = .ok (.iload_n 3, 1) := by decide +kernel
theorem dX1_pagesToWrite_5 : decode cX1_pagesToWrite 5 = .ok (.aload_n 0, 1) := by decide +kernel
theorem dX1_pagesToWrite_6 : decode cX1_pagesToWrite 6 = .ok (.getfield 37, 3) := by decide +kernel
theorem dX1_pagesToWrite_9 : decode cX1_pagesToWrite 9 = .ok (.if_icmp .ge 29, 3) := by decide +kernel
theorem dX1_pagesToWrite_12 : decode cX1_pagesToWrite 12 = .ok (.aload_n 0, 1) := by decide +kernel
theorem dX1_pagesToWrite_13 : decode cX1_pagesToWrite 13 = .ok (.iload_n 3, 1) := by decide +kernel
theorem dX1_pagesToWrite_14 : decode cX1_pagesToWrite 14 = .ok (.invokevirtual 75, 3) := by decide +kernel
theorem dX1_pagesToWrite_17 : decode cX1_pagesToWrite 17 = .ok (.ifCond .eq 15, 3) := by decide +kernel
theorem dX1_pagesToWrite_20 : decode cX1_pagesToWrite 20 = .ok (.aload_n 0, 1) := by decide +kernel
theorem dX1_pagesToWrite_21 : decode cX1_pagesToWrite 21 = .ok (.iload_n 3, 1) := by decide +kernel
theorem dX1_pagesToWrite_22 : decode cX1_pagesToWrite 22 = .ok (.aload_n 1, 1) := by decide +kernel
theorem dX1_pagesToWrite_23 : decode cX1_pagesToWrite 23 = .ok (.invokevirtual 83, 3) := by decide +kernel
theorem dX1_pagesToWrite_26 : decode cX1_pagesToWrite 26 = .ok (.ifCond .ne 6, 3) := by decide +kernel
theorem dX1_pagesToWrite_29 : decode cX1_pagesToWrite 29 = .ok (.iinc 2 1, 3) := by decide +kernel
theorem dX1_pagesToWrite_32 : decode cX1_pagesToWrite 32 = .ok (.iinc 3 1, 3) := by decide +kernel
theorem dX1_pagesToWrite_35 : decode cX1_pagesToWrite 35 = .ok (.goto (-31), 3) := by decide +kernel
theorem dX1_pagesToWrite_38 : decode cX1_pagesToWrite 38 = .ok (.iload_n 2, 1) := by decide +kernel
theorem dX1_pagesToWrite_39 : decode cX1_pagesToWrite 39 = .ok (.ireturn, 1) := by decide +kernel
theorem dX1_pointsAbove_0 : decode cX1_pointsAbove 0 = .ok (.iconst 0, 1) := by decide +kernel
theorem dX1_pointsAbove_1 : decode cX1_pointsAbove 1 = .ok (.istore_n 3, 1) := by decide +kernel
theorem dX1_pointsAbove_2 : decode cX1_pointsAbove 2 = .ok (.iconst 0, 1) := by decide +kernel
theorem dX1_pointsAbove_3 : decode cX1_pointsAbove 3 = .ok (.istore 4, 2) := by decide +kernel
theorem dX1_pointsAbove_5 : decode cX1_pointsAbove 5 = .ok (.iload 4, 2) := by decide +kernel
theorem dX1_pointsAbove_7 : decode cX1_pointsAbove 7 = .ok (.aload_n 0, 1) := by decide +kernel
theorem dX1_pointsAbove_8 : decode cX1_pointsAbove 8 = .ok (.getfield 37, 3) := by decide +kernel
theorem dX1_pointsAbove_11 : decode cX1_pointsAbove 11 = .ok (.if_icmp .ge 27, 3) := by decide +kernel
theorem dX1_pointsAbove_14 : decode cX1_pointsAbove 14 = .ok (.aload_n 0, 1) := by decide +kernel
theorem dX1_pointsAbove_15 : decode cX1_pointsAbove 15 = .ok (.getfield 9, 3) := by decide +kernel
theorem dX1_pointsAbove_18 : decode cX1_pointsAbove 18 = .ok (.iload 4, 2) := by decide +kernel
theorem dX1_pointsAbove_20 : decode cX1_pointsAbove 20 = .ok (.iaload, 1) := by decide +kernel
theorem dX1_pointsAbove_21 : decode cX1_pointsAbove 21 = .ok (.invokestatic 45, 3) := by decide +kernel
theorem dX1_pointsAbove_24 : decode cX1_pointsAbove 24 = .ok (.lload_n 1, 1) := by decide +kernel
theorem dX1_pointsAbove_25 : decode cX1_pointsAbove 25 = .ok (.lcmp, 1) := by decide +kernel
theorem dX1_pointsAbove_26 : decode cX1_pointsAbove 26 = .ok (.ifCond .le 6, 3) := by decide +kernel
theorem dX1_pointsAbove_29 : decode cX1_pointsAbove 29 = .ok (.iinc 3 1, 3) := by decide +kernel
theorem dX1_pointsAbove_32 : decode cX1_pointsAbove 32 = .ok (.iinc 4 1, 3) := by decide +kernel
theorem dX1_pointsAbove_35 : decode cX1_pointsAbove 35 = .ok (.goto (-30), 3) := by decide +kernel
theorem dX1_pointsAbove_38 : decode cX1_pointsAbove 38 = .ok (.iload_n 3, 1) := by decide +kernel
theorem dX1_pointsAbove_39 : decode cX1_pointsAbove 39 = .ok (.ireturn, 1) := by decide +kernel
theorem dX1_moveTail_0 : decode cX1_moveTail 0 = .ok (.aload_n 0, 1) := by decide +kernel
theorem dX1_moveTail_1 : decode cX1_moveTail 1 = .ok (.getfield 37, 3) := by decide +kernel
theorem dX1_moveTail_4 : decode cX1_moveTail 4 = .ok (.iload_n 1, 1) := by decide +kernel
theorem dX1_moveTail_5 : decode cX1_moveTail 5 = .ok (.isub, 1) := by decide +kernel
theorem dX1_moveTail_6 : decode cX1_moveTail 6 = .ok (.istore_n 3, 1) := by decide +kernel
theorem dX1_moveTail_7 : decode cX1_moveTail 7 = .ok (.aload_n 0, 1) := by decide +kernel
theorem dX1_moveTail_8 : decode cX1_moveTail 8 = .ok (.getfield 9, 3) := by decide +kernel
theorem dX1_moveTail_11 : decode cX1_moveTail 11 = .ok (.iload_n 1, 1) := by decide +kernel
theorem dX1_moveTail_12 : decode cX1_moveTail 12 = .ok (.aload_n 0, 1) := by decide +kernel
theorem dX1_moveTail_13 : decode cX1_moveTail 13 = .ok (.getfield 9, 3) := by decide +kernel
theorem dX1_moveTail_16 : decode cX1_moveTail 16 = .ok (.iload_n 2, 1) := by decide +kernel
theorem dX1_moveTail_17 : decode cX1_moveTail 17 = .ok (.iload_n 3, 1) := by decide +kernel
theorem dX1_moveTail_18 : decode cX1_moveTail 18 = .ok (.invokestatic 61, 3) := by decide +kernel
theorem dX1_moveTail_21 : decode cX1_moveTail 21 = .ok (.aload_n 0, 1) := by decide +kernel
theorem dX1_moveTail_22 : decode cX1_moveTail 22 = .ok (.getfield 15, 3) := by decide +kernel
theorem dX1_moveTail_25 : decode cX1_moveTail 25 = .ok (.iload_n 1, 1) := by decide +kernel
theorem dX1_moveTail_26 : decode cX1_moveTail 26 = .ok (.aload_n 0, 1) := by decide +kernel
theorem dX1_moveTail_27 : decode cX1_moveTail 27 = .ok (.getfield 15, 3) := by decide +kernel
theorem dX1_moveTail_30 : decode cX1_moveTail 30 = .ok (.iload_n 2, 1) := by decide +kernel
theorem dX1_moveTail_31 : decode cX1_moveTail 31 = .ok (.iload_n 3, 1) := by decide +kernel
theorem dX1_moveTail_32 : decode cX1_moveTail 32 = .ok (.invokestatic 61, 3) := by decide +kernel
theorem dX1_moveTail_35 : decode cX1_moveTail 35 = .ok (.aload_n 0, 1) := by decide +kernel
theorem dX1_moveTail_36 : decode cX1_moveTail 36 = .ok (.getfield 18, 3) := by decide +kernel
theorem dX1_moveTail_39 : decode cX1_moveTail 39 = .ok (.iload_n 1, 1) := by decide +kernel
theorem dX1_moveTail_40 : decode cX1_moveTail 40 = .ok (.aload_n 0, 1) := by decide +kernel
theorem dX1_moveTail_41 : decode cX1_moveTail 41 = .ok (.getfield 18, 3) := by decide +kernel
theorem dX1_moveTail_44 : decode cX1_moveTail 44 = .ok (.iload_n 2, 1) := by decide +kernel
theorem dX1_moveTail_45 : decode cX1_moveTail 45 = .ok (.iload_n 3, 1) := by decide +kernel
theorem dX1_moveTail_46 : decode cX1_moveTail 46 = .ok (.invokestatic 61, 3) := by decide +kernel
theorem dX1_moveTail_49 : decode cX1_moveTail 49 = .ok (.aload_n 0, 1) := by decide +kernel
theorem dX1_moveTail_50 : decode cX1_moveTail 50 = .ok (.getfield 21, 3) := by decide +kernel
theorem dX1_moveTail_53 : decode cX1_moveTail 53 = .ok (.iload_n 1, 1) := by decide +kernel
theorem dX1_moveTail_54 : decode cX1_moveTail 54 = .ok (.aload_n 0, 1) := by decide +kernel
theorem dX1_moveTail_55 : decode cX1_moveTail 55 = .ok (.getfield 21, 3) := by decide +kernel
theorem dX1_moveTail_58 : decode cX1_moveTail 58 = .ok (.iload_n 2, 1) := by decide +kernel
theorem dX1_moveTail_59 : decode cX1_moveTail 59 = .ok (.iload_n 3, 1) := by decide +kernel
theorem dX1_moveTail_60 : decode cX1_moveTail 60 = .ok (.invokestatic 61, 3) := by decide +kernel
theorem dX1_moveTail_63 : decode cX1_moveTail 63 = .ok (.aload_n 0, 1) := by decide +kernel
theorem dX1_moveTail_64 : decode cX1_moveTail 64 = .ok (.getfield 24, 3) := by decide +kernel
theorem dX1_moveTail_67 : decode cX1_moveTail 67 = .ok (.iload_n 1, 1) := by decide +kernel
theorem dX1_moveTail_68 : decode cX1_moveTail 68 = .ok (.aload_n 0, 1) := by decide +kernel
theorem dX1_moveTail_69 : decode cX1_moveTail 69 = .ok (.getfield 24, 3) := by decide +kernel
theorem dX1_moveTail_72 : decode cX1_moveTail 72 = .ok (.iload_n 2, 1) := by decide +kernel
theorem dX1_moveTail_73 : decode cX1_moveTail 73 = .ok (.iload_n 3, 1) := by decide +kernel
theorem dX1_moveTail_74 : decode cX1_moveTail 74 = .ok (.invokestatic 61, 3) := by decide +kernel
theorem dX1_moveTail_77 : decode cX1_moveTail 77 = .ok (.return_, 1) := by decide +kernel
theorem dX1_settleFrom_0 : decode cX1_settleFrom 0 = .ok (.iload_n 1, 1) := by decide +kernel
theorem dX1_settleFrom_1 : decode cX1_settleFrom 1 = .ok (.istore_n 2, 1) := by decide +kernel
theorem dX1_settleFrom_2 : decode cX1_settleFrom 2 = .ok (.iload_n 2, 1) := by decide +kernel
theorem dX1_settleFrom_3 : decode cX1_settleFrom 3 = .ok (.aload_n 0, 1) := by decide +kernel
theorem dX1_settleFrom_4 : decode cX1_settleFrom 4 = .ok (.getfield 37, 3) := by decide +kernel
theorem dX1_settleFrom_7 : decode cX1_settleFrom 7 = .ok (.if_icmp .ge 14, 3) := by decide +kernel
theorem dX1_settleFrom_10 : decode cX1_settleFrom 10 = .ok (.aload_n 0, 1) := by decide +kernel
theorem dX1_settleFrom_11 : decode cX1_settleFrom 11 = .ok (.iload_n 2, 1) := by decide +kernel
theorem dX1_settleFrom_12 : decode cX1_settleFrom 12 = .ok (.invokevirtual 87, 3) := by decide +kernel
theorem dX1_settleFrom_15 : decode cX1_settleFrom 15 = .ok (.iinc 2 1, 3) := by decide +kernel
theorem dX1_settleFrom_18 : decode cX1_settleFrom 18 = .ok (.goto (-16), 3) := by decide +kernel
theorem dX1_settleFrom_21 : decode cX1_settleFrom 21 = .ok (.return_, 1) := by decide +kernel
theorem dX1_settle_0 : decode cX1_settle 0 = .ok (.iconst 0, 1) := by decide +kernel
theorem dX1_settle_1 : decode cX1_settle 1 = .ok (.istore_n 2, 1) := by decide +kernel
theorem dX1_settle_2 : decode cX1_settle 2 = .ok (.aload_n 0, 1) := by decide +kernel
theorem dX1_settle_3 : decode cX1_settle 3 = .ok (.iload_n 1, 1) := by decide +kernel
theorem dX1_settle_4 : decode cX1_settle 4 = .ok (.iload_n 2, 1) := by decide +kernel
theorem dX1_settle_5 : decode cX1_settle 5 = .ok (.invokevirtual 90, 3) := by decide +kernel
theorem dX1_settle_8 : decode cX1_settle 8 = .ok (.istore_n 3, 1) := by decide +kernel
theorem dX1_settle_9 : decode cX1_settle 9 = .ok (.iload_n 2, 1) := by decide +kernel
theorem dX1_settle_10 : decode cX1_settle 10 = .ok (.iconst 4, 1) := by decide +kernel
theorem dX1_settle_11 : decode cX1_settle 11 = .ok (.if_icmp .ge 21, 3) := by decide +kernel
theorem dX1_settle_14 : decode cX1_settle 14 = .ok (.iload_n 3, 1) := by decide +kernel
theorem dX1_settle_15 : decode cX1_settle 15 = .ok (.iconst 3, 1) := by decide +kernel
theorem dX1_settle_16 : decode cX1_settle 16 = .ok (.if_icmp .lt 16, 3) := by decide +kernel
theorem dX1_settle_19 : decode cX1_settle 19 = .ok (.iinc 2 1, 3) := by decide +kernel
theorem dX1_settle_22 : decode cX1_settle 22 = .ok (.aload_n 0, 1) := by decide +kernel
theorem dX1_settle_23 : decode cX1_settle 23 = .ok (.iload_n 1, 1) := by decide +kernel
theorem dX1_settle_24 : decode cX1_settle 24 = .ok (.iload_n 2, 1) := by decide +kernel
theorem dX1_settle_25 : decode cX1_settle 25 = .ok (.invokevirtual 90, 3) := by decide +kernel
theorem dX1_settle_28 : decode cX1_settle 28 = .ok (.istore_n 3, 1) := by decide +kernel
theorem dX1_settle_29 : decode cX1_settle 29 = .ok (.goto (-20), 3) := by decide +kernel
theorem dX1_settle_32 : decode cX1_settle 32 = .ok (.aload_n 0, 1) := by decide +kernel
theorem dX1_settle_33 : decode cX1_settle 33 = .ok (.getfield 27, 3) := by decide +kernel
theorem dX1_settle_36 : decode cX1_settle 36 = .ok (.iload_n 1, 1) := by decide +kernel
theorem dX1_settle_37 : decode cX1_settle 37 = .ok (.iload_n 2, 1) := by decide +kernel
theorem dX1_settle_38 : decode cX1_settle 38 = .ok (.iastore, 1) := by decide +kernel
theorem dX1_settle_39 : decode cX1_settle 39 = .ok (.aload_n 0, 1) := by decide +kernel
theorem dX1_settle_40 : decode cX1_settle 40 = .ok (.getfield 30, 3) := by decide +kernel
theorem dX1_settle_43 : decode cX1_settle 43 = .ok (.iload_n 1, 1) := by decide +kernel
theorem dX1_settle_44 : decode cX1_settle 44 = .ok (.iload_n 3, 1) := by decide +kernel
theorem dX1_settle_45 : decode cX1_settle 45 = .ok (.iastore, 1) := by decide +kernel
theorem dX1_settle_46 : decode cX1_settle 46 = .ok (.return_, 1) := by decide +kernel
theorem dX1_keptBefore_0 : decode cX1_keptBefore 0 = .ok (.iload_n 2, 1) := by decide +kernel
theorem dX1_keptBefore_1 : decode cX1_keptBefore 1 = .ok (.aload_n 0, 1) := by decide +kernel
theorem dX1_keptBefore_2 : decode cX1_keptBefore 2 = .ok (.getfield 15, 3) := by decide +kernel
theorem dX1_keptBefore_5 : decode cX1_keptBefore 5 = .ok (.iload_n 1, 1) := by decide +kernel
theorem dX1_keptBefore_6 : decode cX1_keptBefore 6 = .ok (.iaload, 1) := by decide +kernel
theorem dX1_keptBefore_7 : decode cX1_keptBefore 7 = .ok (.invokestatic 94, 3) := by decide +kernel
theorem dX1_keptBefore_10 : decode cX1_keptBefore 10 = .ok (.istore_n 3, 1) := by decide +kernel
theorem dX1_keptBefore_11 : decode cX1_keptBefore 11 = .ok (.iload_n 2, 1) := by decide +kernel
theorem dX1_keptBefore_12 : decode cX1_keptBefore 12 = .ok (.aload_n 0, 1) := by decide +kernel
theorem dX1_keptBefore_13 : decode cX1_keptBefore 13 = .ok (.getfield 18, 3) := by decide +kernel
theorem dX1_keptBefore_16 : decode cX1_keptBefore 16 = .ok (.iload_n 1, 1) := by decide +kernel
theorem dX1_keptBefore_17 : decode cX1_keptBefore 17 = .ok (.iaload, 1) := by decide +kernel
theorem dX1_keptBefore_18 : decode cX1_keptBefore 18 = .ok (.invokestatic 94, 3) := by decide +kernel
theorem dX1_keptBefore_21 : decode cX1_keptBefore 21 = .ok (.istore 4, 2) := by decide +kernel
theorem dX1_keptBefore_23 : decode cX1_keptBefore 23 = .ok (.iload_n 2, 1) := by decide +kernel
theorem dX1_keptBefore_24 : decode cX1_keptBefore 24 = .ok (.aload_n 0, 1) := by decide +kernel
theorem dX1_keptBefore_25 : decode cX1_keptBefore 25 = .ok (.getfield 21, 3) := by decide +kernel
theorem dX1_keptBefore_28 : decode cX1_keptBefore 28 = .ok (.iload_n 1, 1) := by decide +kernel
theorem dX1_keptBefore_29 : decode cX1_keptBefore 29 = .ok (.iaload, 1) := by decide +kernel
theorem dX1_keptBefore_30 : decode cX1_keptBefore 30 = .ok (.invokestatic 94, 3) := by decide +kernel
theorem dX1_keptBefore_33 : decode cX1_keptBefore 33 = .ok (.istore 5, 2) := by decide +kernel
theorem dX1_keptBefore_35 : decode cX1_keptBefore 35 = .ok (.iconst 0, 1) := by decide +kernel
theorem dX1_keptBefore_36 : decode cX1_keptBefore 36 = .ok (.istore 6, 2) := by decide +kernel
theorem dX1_keptBefore_38 : decode cX1_keptBefore 38 = .ok (.iconst 0, 1) := by decide +kernel
theorem dX1_keptBefore_39 : decode cX1_keptBefore 39 = .ok (.istore 7, 2) := by decide +kernel
theorem dX1_keptBefore_41 : decode cX1_keptBefore 41 = .ok (.iload 7, 2) := by decide +kernel
theorem dX1_keptBefore_43 : decode cX1_keptBefore 43 = .ok (.iload_n 1, 1) := by decide +kernel
theorem dX1_keptBefore_44 : decode cX1_keptBefore 44 = .ok (.if_icmp .ge 38, 3) := by decide +kernel
theorem dX1_keptBefore_47 : decode cX1_keptBefore 47 = .ok (.aload_n 0, 1) := by decide +kernel
theorem dX1_keptBefore_48 : decode cX1_keptBefore 48 = .ok (.getfield 27, 3) := by decide +kernel
theorem dX1_keptBefore_51 : decode cX1_keptBefore 51 = .ok (.iload 7, 2) := by decide +kernel
theorem dX1_keptBefore_53 : decode cX1_keptBefore 53 = .ok (.iaload, 1) := by decide +kernel
theorem dX1_keptBefore_54 : decode cX1_keptBefore 54 = .ok (.iload_n 2, 1) := by decide +kernel
theorem dX1_keptBefore_55 : decode cX1_keptBefore 55 = .ok (.if_icmp .ne 21, 3) := by decide +kernel
theorem dX1_keptBefore_58 : decode cX1_keptBefore 58 = .ok (.aload_n 0, 1) := by decide +kernel
theorem dX1_keptBefore_59 : decode cX1_keptBefore 59 = .ok (.iload 7, 2) := by decide +kernel
theorem dX1_keptBefore_61 : decode cX1_keptBefore 61 = .ok (.iload_n 2, 1) := by decide +kernel
theorem dX1_keptBefore_62 : decode cX1_keptBefore 62 = .ok (.iload_n 3, 1) := by decide +kernel
theorem dX1_keptBefore_63 : decode cX1_keptBefore 63 = .ok (.iload 4, 2) := by decide +kernel
theorem dX1_keptBefore_65 : decode cX1_keptBefore 65 = .ok (.iload 5, 2) := by decide +kernel
theorem dX1_keptBefore_67 : decode cX1_keptBefore 67 = .ok (.invokevirtual 41, 3) := by decide +kernel
theorem dX1_keptBefore_70 : decode cX1_keptBefore 70 = .ok (.ifCond .eq 6, 3) := by decide +kernel
theorem dX1_keptBefore_73 : decode cX1_keptBefore 73 = .ok (.iinc 6 1, 3) := by decide +kernel
theorem dX1_keptBefore_76 : decode cX1_keptBefore 76 = .ok (.iinc 7 1, 3) := by decide +kernel
theorem dX1_keptBefore_79 : decode cX1_keptBefore 79 = .ok (.goto (-38), 3) := by decide +kernel
theorem dX1_keptBefore_82 : decode cX1_keptBefore 82 = .ok (.iload 6, 2) := by decide +kernel
theorem dX1_keptBefore_84 : decode cX1_keptBefore 84 = .ok (.ireturn, 1) := by decide +kernel
theorem dX1_isInCube_0 : decode cX1_isInCube 0 = .ok (.iload_n 2, 1) := by decide +kernel
theorem dX1_isInCube_1 : decode cX1_isInCube 1 = .ok (.aload_n 0, 1) := by decide +kernel
theorem dX1_isInCube_2 : decode cX1_isInCube 2 = .ok (.getfield 15, 3) := by decide +kernel
theorem dX1_isInCube_5 : decode cX1_isInCube 5 = .ok (.iload_n 1, 1) := by decide +kernel
theorem dX1_isInCube_6 : decode cX1_isInCube 6 = .ok (.iaload, 1) := by decide +kernel
theorem dX1_isInCube_7 : decode cX1_isInCube 7 = .ok (.invokestatic 94, 3) := by decide +kernel
theorem dX1_isInCube_10 : decode cX1_isInCube 10 = .ok (.iload_n 3, 1) := by decide +kernel
theorem dX1_isInCube_11 : decode cX1_isInCube 11 = .ok (.if_icmp .ne 37, 3) := by decide +kernel
theorem dX1_isInCube_14 : decode cX1_isInCube 14 = .ok (.iload_n 2, 1) := by decide +kernel
theorem dX1_isInCube_15 : decode cX1_isInCube 15 = .ok (.aload_n 0, 1) := by decide +kernel
theorem dX1_isInCube_16 : decode cX1_isInCube 16 = .ok (.getfield 18, 3) := by decide +kernel
theorem dX1_isInCube_19 : decode cX1_isInCube 19 = .ok (.iload_n 1, 1) := by decide +kernel
theorem dX1_isInCube_20 : decode cX1_isInCube 20 = .ok (.iaload, 1) := by decide +kernel
theorem dX1_isInCube_21 : decode cX1_isInCube 21 = .ok (.invokestatic 94, 3) := by decide +kernel
theorem dX1_isInCube_24 : decode cX1_isInCube 24 = .ok (.iload 4, 2) := by decide +kernel
theorem dX1_isInCube_26 : decode cX1_isInCube 26 = .ok (.if_icmp .ne 22, 3) := by decide +kernel
theorem dX1_isInCube_29 : decode cX1_isInCube 29 = .ok (.iload_n 2, 1) := by decide +kernel
theorem dX1_isInCube_30 : decode cX1_isInCube 30 = .ok (.aload_n 0, 1) := by decide +kernel
theorem dX1_isInCube_31 : decode cX1_isInCube 31 = .ok (.getfield 21, 3) := by decide +kernel
theorem dX1_isInCube_34 : decode cX1_isInCube 34 = .ok (.iload_n 1, 1) := by decide +kernel
theorem dX1_isInCube_35 : decode cX1_isInCube 35 = .ok (.iaload, 1) := by decide +kernel
theorem dX1_isInCube_36 : decode cX1_isInCube 36 = .ok (.invokestatic 94, 3) := by decide +kernel
theorem dX1_isInCube_39 : decode cX1_isInCube 39 = .ok (.iload 5, 2) := by decide +kernel
theorem dX1_isInCube_41 : decode cX1_isInCube 41 = .ok (.if_icmp .ne 7, 3) := by decide +kernel
theorem dX1_isInCube_44 : decode cX1_isInCube 44 = .ok (.iconst 1, 1) := by decide +kernel
theorem dX1_isInCube_45 : decode cX1_isInCube 45 = .ok (.goto 4, 3) := by decide +kernel
theorem dX1_isInCube_48 : decode cX1_isInCube 48 = .ok (.iconst 0, 1) := by decide +kernel
theorem dX1_isInCube_49 : decode cX1_isInCube 49 = .ok (.ireturn, 1) := by decide +kernel
theorem dX1_beginsPage_0 : decode cX1_beginsPage 0 = .ok (.aload_n 0, 1) := by decide +kernel
theorem dX1_beginsPage_1 : decode cX1_beginsPage 1 = .ok (.getfield 30, 3) := by decide +kernel
theorem dX1_beginsPage_4 : decode cX1_beginsPage 4 = .ok (.iload_n 1, 1) := by decide +kernel
theorem dX1_beginsPage_5 : decode cX1_beginsPage 5 = .ok (.iaload, 1) := by decide +kernel
theorem dX1_beginsPage_6 : decode cX1_beginsPage 6 = .ok (.bipush 6, 2) := by decide +kernel
theorem dX1_beginsPage_8 : decode cX1_beginsPage 8 = .ok (.irem, 1) := by decide +kernel
theorem dX1_beginsPage_9 : decode cX1_beginsPage 9 = .ok (.ifCond .ne 7, 3) := by decide +kernel
theorem dX1_beginsPage_12 : decode cX1_beginsPage 12 = .ok (.iconst 1, 1) := by decide +kernel
theorem dX1_beginsPage_13 : decode cX1_beginsPage 13 = .ok (.goto 4, 3) := by decide +kernel
theorem dX1_beginsPage_16 : decode cX1_beginsPage 16 = .ok (.iconst 0, 1) := by decide +kernel
theorem dX1_beginsPage_17 : decode cX1_beginsPage 17 = .ok (.ireturn, 1) := by decide +kernel
theorem dX1_keepsAlike_0 : decode cX1_keepsAlike 0 = .ok (.aload_n 0, 1) := by decide +kernel
theorem dX1_keepsAlike_1 : decode cX1_keepsAlike 1 = .ok (.aload_n 1, 1) := by decide +kernel
theorem dX1_keepsAlike_2 : decode cX1_keepsAlike 2 = .ok (.getfield 9, 3) := by decide +kernel
theorem dX1_keepsAlike_5 : decode cX1_keepsAlike 5 = .ok (.iload_n 2, 1) := by decide +kernel
theorem dX1_keepsAlike_6 : decode cX1_keepsAlike 6 = .ok (.iaload, 1) := by decide +kernel
theorem dX1_keepsAlike_7 : decode cX1_keepsAlike 7 = .ok (.invokevirtual 97, 3) := by decide +kernel
theorem dX1_keepsAlike_10 : decode cX1_keepsAlike 10 = .ok (.istore_n 3, 1) := by decide +kernel
theorem dX1_keepsAlike_11 : decode cX1_keepsAlike 11 = .ok (.iload_n 3, 1) := by decide +kernel
theorem dX1_keepsAlike_12 : decode cX1_keepsAlike 12 = .ok (.iconst (-1), 1) := by decide +kernel
theorem dX1_keepsAlike_13 : decode cX1_keepsAlike 13 = .ok (.if_icmp .eq 82, 3) := by decide +kernel
theorem dX1_keepsAlike_16 : decode cX1_keepsAlike 16 = .ok (.aload_n 0, 1) := by decide +kernel
theorem dX1_keepsAlike_17 : decode cX1_keepsAlike 17 = .ok (.getfield 15, 3) := by decide +kernel
theorem dX1_keepsAlike_20 : decode cX1_keepsAlike 20 = .ok (.iload_n 3, 1) := by decide +kernel
theorem dX1_keepsAlike_21 : decode cX1_keepsAlike 21 = .ok (.iaload, 1) := by decide +kernel
theorem dX1_keepsAlike_22 : decode cX1_keepsAlike 22 = .ok (.aload_n 1, 1) := by decide +kernel
theorem dX1_keepsAlike_23 : decode cX1_keepsAlike 23 = .ok (.getfield 15, 3) := by decide +kernel
theorem dX1_keepsAlike_26 : decode cX1_keepsAlike 26 = .ok (.iload_n 2, 1) := by decide +kernel
theorem dX1_keepsAlike_27 : decode cX1_keepsAlike 27 = .ok (.iaload, 1) := by decide +kernel
theorem dX1_keepsAlike_28 : decode cX1_keepsAlike 28 = .ok (.if_icmp .ne 67, 3) := by decide +kernel
theorem dX1_keepsAlike_31 : decode cX1_keepsAlike 31 = .ok (.aload_n 0, 1) := by decide +kernel
theorem dX1_keepsAlike_32 : decode cX1_keepsAlike 32 = .ok (.getfield 18, 3) := by decide +kernel
theorem dX1_keepsAlike_35 : decode cX1_keepsAlike 35 = .ok (.iload_n 3, 1) := by decide +kernel
theorem dX1_keepsAlike_36 : decode cX1_keepsAlike 36 = .ok (.iaload, 1) := by decide +kernel
theorem dX1_keepsAlike_37 : decode cX1_keepsAlike 37 = .ok (.aload_n 1, 1) := by decide +kernel
theorem dX1_keepsAlike_38 : decode cX1_keepsAlike 38 = .ok (.getfield 18, 3) := by decide +kernel
theorem dX1_keepsAlike_41 : decode cX1_keepsAlike 41 = .ok (.iload_n 2, 1) := by decide +kernel
theorem dX1_keepsAlike_42 : decode cX1_keepsAlike 42 = .ok (.iaload, 1) := by decide +kernel
theorem dX1_keepsAlike_43 : decode cX1_keepsAlike 43 = .ok (.if_icmp .ne 52, 3) := by decide +kernel
theorem dX1_keepsAlike_46 : decode cX1_keepsAlike 46 = .ok (.aload_n 0, 1) := by decide +kernel
theorem dX1_keepsAlike_47 : decode cX1_keepsAlike 47 = .ok (.getfield 21, 3) := by decide +kernel
theorem dX1_keepsAlike_50 : decode cX1_keepsAlike 50 = .ok (.iload_n 3, 1) := by decide +kernel
theorem dX1_keepsAlike_51 : decode cX1_keepsAlike 51 = .ok (.iaload, 1) := by decide +kernel
theorem dX1_keepsAlike_52 : decode cX1_keepsAlike 52 = .ok (.aload_n 1, 1) := by decide +kernel
theorem dX1_keepsAlike_53 : decode cX1_keepsAlike 53 = .ok (.getfield 21, 3) := by decide +kernel
theorem dX1_keepsAlike_56 : decode cX1_keepsAlike 56 = .ok (.iload_n 2, 1) := by decide +kernel
theorem dX1_keepsAlike_57 : decode cX1_keepsAlike 57 = .ok (.iaload, 1) := by decide +kernel
theorem dX1_keepsAlike_58 : decode cX1_keepsAlike 58 = .ok (.if_icmp .ne 37, 3) := by decide +kernel
theorem dX1_keepsAlike_61 : decode cX1_keepsAlike 61 = .ok (.aload_n 0, 1) := by decide +kernel
theorem dX1_keepsAlike_62 : decode cX1_keepsAlike 62 = .ok (.getfield 24, 3) := by decide +kernel
theorem dX1_keepsAlike_65 : decode cX1_keepsAlike 65 = .ok (.iload_n 3, 1) := by decide +kernel
theorem dX1_keepsAlike_66 : decode cX1_keepsAlike 66 = .ok (.iaload, 1) := by decide +kernel
theorem dX1_keepsAlike_67 : decode cX1_keepsAlike 67 = .ok (.aload_n 1, 1) := by decide +kernel
theorem dX1_keepsAlike_68 : decode cX1_keepsAlike 68 = .ok (.getfield 24, 3) := by decide +kernel
theorem dX1_keepsAlike_71 : decode cX1_keepsAlike 71 = .ok (.iload_n 2, 1) := by decide +kernel
theorem dX1_keepsAlike_72 : decode cX1_keepsAlike 72 = .ok (.iaload, 1) := by decide +kernel
theorem dX1_keepsAlike_73 : decode cX1_keepsAlike 73 = .ok (.if_icmp .ne 22, 3) := by decide +kernel
theorem dX1_keepsAlike_76 : decode cX1_keepsAlike 76 = .ok (.aload_n 0, 1) := by decide +kernel
theorem dX1_keepsAlike_77 : decode cX1_keepsAlike 77 = .ok (.getfield 27, 3) := by decide +kernel
theorem dX1_keepsAlike_80 : decode cX1_keepsAlike 80 = .ok (.iload_n 3, 1) := by decide +kernel
theorem dX1_keepsAlike_81 : decode cX1_keepsAlike 81 = .ok (.iaload, 1) := by decide +kernel
theorem dX1_keepsAlike_82 : decode cX1_keepsAlike 82 = .ok (.aload_n 1, 1) := by decide +kernel
theorem dX1_keepsAlike_83 : decode cX1_keepsAlike 83 = .ok (.getfield 27, 3) := by decide +kernel
theorem dX1_keepsAlike_86 : decode cX1_keepsAlike 86 = .ok (.iload_n 2, 1) := by decide +kernel
theorem dX1_keepsAlike_87 : decode cX1_keepsAlike 87 = .ok (.iaload, 1) := by decide +kernel
theorem dX1_keepsAlike_88 : decode cX1_keepsAlike 88 = .ok (.if_icmp .ne 7, 3) := by decide +kernel
theorem dX1_keepsAlike_91 : decode cX1_keepsAlike 91 = .ok (.iconst 1, 1) := by decide +kernel
theorem dX1_keepsAlike_92 : decode cX1_keepsAlike 92 = .ok (.goto 4, 3) := by decide +kernel
theorem dX1_keepsAlike_95 : decode cX1_keepsAlike 95 = .ok (.iconst 0, 1) := by decide +kernel
theorem dX1_keepsAlike_96 : decode cX1_keepsAlike 96 = .ok (.ireturn, 1) := by decide +kernel
theorem dX1_isNodeClean_0 : decode cX1_isNodeClean 0 = .ok (.aload_n 0, 1) := by decide +kernel
theorem dX1_isNodeClean_1 : decode cX1_isNodeClean 1 = .ok (.getfield 27, 3) := by decide +kernel
theorem dX1_isNodeClean_4 : decode cX1_isNodeClean 4 = .ok (.iload_n 1, 1) := by decide +kernel
theorem dX1_isNodeClean_5 : decode cX1_isNodeClean 5 = .ok (.iaload, 1) := by decide +kernel
theorem dX1_isNodeClean_6 : decode cX1_isNodeClean 6 = .ok (.istore_n 3, 1) := by decide +kernel
theorem dX1_isNodeClean_7 : decode cX1_isNodeClean 7 = .ok (.iload_n 3, 1) := by decide +kernel
theorem dX1_isNodeClean_8 : decode cX1_isNodeClean 8 = .ok (.aload_n 0, 1) := by decide +kernel
theorem dX1_isNodeClean_9 : decode cX1_isNodeClean 9 = .ok (.getfield 15, 3) := by decide +kernel
theorem dX1_isNodeClean_12 : decode cX1_isNodeClean 12 = .ok (.iload_n 1, 1) := by decide +kernel
theorem dX1_isNodeClean_13 : decode cX1_isNodeClean 13 = .ok (.iaload, 1) := by decide +kernel
theorem dX1_isNodeClean_14 : decode cX1_isNodeClean 14 = .ok (.invokestatic 94, 3) := by decide +kernel
theorem dX1_isNodeClean_17 : decode cX1_isNodeClean 17 = .ok (.istore 4, 2) := by decide +kernel
theorem dX1_isNodeClean_19 : decode cX1_isNodeClean 19 = .ok (.iload_n 3, 1) := by decide +kernel
theorem dX1_isNodeClean_20 : decode cX1_isNodeClean 20 = .ok (.aload_n 0, 1) := by decide +kernel
theorem dX1_isNodeClean_21 : decode cX1_isNodeClean 21 = .ok (.getfield 18, 3) := by decide +kernel
theorem dX1_isNodeClean_24 : decode cX1_isNodeClean 24 = .ok (.iload_n 1, 1) := by decide +kernel
theorem dX1_isNodeClean_25 : decode cX1_isNodeClean 25 = .ok (.iaload, 1) := by decide +kernel
theorem dX1_isNodeClean_26 : decode cX1_isNodeClean 26 = .ok (.invokestatic 94, 3) := by decide +kernel
theorem dX1_isNodeClean_29 : decode cX1_isNodeClean 29 = .ok (.istore 5, 2) := by decide +kernel
theorem dX1_isNodeClean_31 : decode cX1_isNodeClean 31 = .ok (.iload_n 3, 1) := by decide +kernel
theorem dX1_isNodeClean_32 : decode cX1_isNodeClean 32 = .ok (.aload_n 0, 1) := by decide +kernel
theorem dX1_isNodeClean_33 : decode cX1_isNodeClean 33 = .ok (.getfield 21, 3) := by decide +kernel
theorem dX1_isNodeClean_36 : decode cX1_isNodeClean 36 = .ok (.iload_n 1, 1) := by decide +kernel
theorem dX1_isNodeClean_37 : decode cX1_isNodeClean 37 = .ok (.iaload, 1) := by decide +kernel
theorem dX1_isNodeClean_38 : decode cX1_isNodeClean 38 = .ok (.invokestatic 94, 3) := by decide +kernel
theorem dX1_isNodeClean_41 : decode cX1_isNodeClean 41 = .ok (.istore 6, 2) := by decide +kernel
theorem dX1_isNodeClean_43 : decode cX1_isNodeClean 43 = .ok (.aload_n 0, 1) := by decide +kernel
theorem dX1_isNodeClean_44 : decode cX1_isNodeClean 44 = .ok (.iload_n 3, 1) := by decide +kernel
theorem dX1_isNodeClean_45 : decode cX1_isNodeClean 45 = .ok (.iload 4, 2) := by decide +kernel
theorem dX1_isNodeClean_47 : decode cX1_isNodeClean 47 = .ok (.iload 5, 2) := by decide +kernel
theorem dX1_isNodeClean_49 : decode cX1_isNodeClean 49 = .ok (.iload 6, 2) := by decide +kernel
theorem dX1_isNodeClean_51 : decode cX1_isNodeClean 51 = .ok (.invokevirtual 101, 3) := by decide +kernel
theorem dX1_isNodeClean_54 : decode cX1_isNodeClean 54 = .ok (.ifCond .ne 21, 3) := by decide +kernel
theorem dX1_isNodeClean_57 : decode cX1_isNodeClean 57 = .ok (.aload_n 2, 1) := by decide +kernel
theorem dX1_isNodeClean_58 : decode cX1_isNodeClean 58 = .ok (.iload_n 3, 1) := by decide +kernel
theorem dX1_isNodeClean_59 : decode cX1_isNodeClean 59 = .ok (.iload 4, 2) := by decide +kernel
theorem dX1_isNodeClean_61 : decode cX1_isNodeClean 61 = .ok (.iload 5, 2) := by decide +kernel
theorem dX1_isNodeClean_63 : decode cX1_isNodeClean 63 = .ok (.iload 6, 2) := by decide +kernel
theorem dX1_isNodeClean_65 : decode cX1_isNodeClean 65 = .ok (.invokevirtual 101, 3) := by decide +kernel
theorem dX1_isNodeClean_68 : decode cX1_isNodeClean 68 = .ok (.ifCond .ne 7, 3) := by decide +kernel
theorem dX1_isNodeClean_71 : decode cX1_isNodeClean 71 = .ok (.iconst 1, 1) := by decide +kernel
theorem dX1_isNodeClean_72 : decode cX1_isNodeClean 72 = .ok (.goto 4, 3) := by decide +kernel
theorem dX1_isNodeClean_75 : decode cX1_isNodeClean 75 = .ok (.iconst 0, 1) := by decide +kernel
theorem dX1_isNodeClean_76 : decode cX1_isNodeClean 76 = .ok (.ireturn, 1) := by decide +kernel
theorem dX1_hasChange_0 : decode cX1_hasChange 0 = .ok (.iconst 0, 1) := by decide +kernel
theorem dX1_hasChange_1 : decode cX1_hasChange 1 = .ok (.istore 5, 2) := by decide +kernel
theorem dX1_hasChange_3 : decode cX1_hasChange 3 = .ok (.iload 5, 2) := by decide +kernel
theorem dX1_hasChange_5 : decode cX1_hasChange 5 = .ok (.aload_n 0, 1) := by decide +kernel
theorem dX1_hasChange_6 : decode cX1_hasChange 6 = .ok (.getfield 37, 3) := by decide +kernel
theorem dX1_hasChange_9 : decode cX1_hasChange 9 = .ok (.if_icmp .ge 46, 3) := by decide +kernel
theorem dX1_hasChange_12 : decode cX1_hasChange 12 = .ok (.aload_n 0, 1) := by decide +kernel
theorem dX1_hasChange_13 : decode cX1_hasChange 13 = .ok (.getfield 33, 3) := by decide +kernel
theorem dX1_hasChange_16 : decode cX1_hasChange 16 = .ok (.iload 5, 2) := by decide +kernel
theorem dX1_hasChange_18 : decode cX1_hasChange 18 = .ok (.baload, 1) := by decide +kernel
theorem dX1_hasChange_19 : decode cX1_hasChange 19 = .ok (.ifCond .eq 30, 3) := by decide +kernel
theorem dX1_hasChange_22 : decode cX1_hasChange 22 = .ok (.aload_n 0, 1) := by decide +kernel
theorem dX1_hasChange_23 : decode cX1_hasChange 23 = .ok (.getfield 27, 3) := by decide +kernel
theorem dX1_hasChange_26 : decode cX1_hasChange 26 = .ok (.iload 5, 2) := by decide +kernel
theorem dX1_hasChange_28 : decode cX1_hasChange 28 = .ok (.iaload, 1) := by decide +kernel
theorem dX1_hasChange_29 : decode cX1_hasChange 29 = .ok (.iload_n 1, 1) := by decide +kernel
theorem dX1_hasChange_30 : decode cX1_hasChange 30 = .ok (.if_icmp .lt 19, 3) := by decide +kernel
theorem dX1_hasChange_33 : decode cX1_hasChange 33 = .ok (.aload_n 0, 1) := by decide +kernel
theorem dX1_hasChange_34 : decode cX1_hasChange 34 = .ok (.iload 5, 2) := by decide +kernel
theorem dX1_hasChange_36 : decode cX1_hasChange 36 = .ok (.iload_n 1, 1) := by decide +kernel
theorem dX1_hasChange_37 : decode cX1_hasChange 37 = .ok (.iload_n 2, 1) := by decide +kernel
theorem dX1_hasChange_38 : decode cX1_hasChange 38 = .ok (.iload_n 3, 1) := by decide +kernel
theorem dX1_hasChange_39 : decode cX1_hasChange 39 = .ok (.iload 4, 2) := by decide +kernel
theorem dX1_hasChange_41 : decode cX1_hasChange 41 = .ok (.invokevirtual 41, 3) := by decide +kernel
theorem dX1_hasChange_44 : decode cX1_hasChange 44 = .ok (.ifCond .eq 5, 3) := by decide +kernel
theorem dX1_hasChange_47 : decode cX1_hasChange 47 = .ok (.iconst 1, 1) := by decide +kernel
theorem dX1_hasChange_48 : decode cX1_hasChange 48 = .ok (.ireturn, 1) := by decide +kernel
theorem dX1_hasChange_49 : decode cX1_hasChange 49 = .ok (.iinc 5 1, 3) := by decide +kernel
theorem dX1_hasChange_52 : decode cX1_hasChange 52 = .ok (.goto (-49), 3) := by decide +kernel
theorem dX1_hasChange_55 : decode cX1_hasChange 55 = .ok (.iconst 0, 1) := by decide +kernel
theorem dX1_hasChange_56 : decode cX1_hasChange 56 = .ok (.ireturn, 1) := by decide +kernel
theorem dX1_leastKeyAbove_0 : decode cX1_leastKeyAbove 0 = .ok (.ldc2_w 105, 3) := by decide +kernel
theorem dX1_leastKeyAbove_3 : decode cX1_leastKeyAbove 3 = .ok (.lstore 6, 2) := by decide +kernel
theorem dX1_leastKeyAbove_5 : decode cX1_leastKeyAbove 5 = .ok (.iconst 0, 1) := by decide +kernel
theorem dX1_leastKeyAbove_6 : decode cX1_leastKeyAbove 6 = .ok (.istore 8, 2) := by decide +kernel
theorem dX1_leastKeyAbove_8 : decode cX1_leastKeyAbove 8 = .ok (.iload 8, 2) := by decide +kernel
theorem dX1_leastKeyAbove_10 : decode cX1_leastKeyAbove 10 = .ok (.aload_n 0, 1) := by decide +kernel
theorem dX1_leastKeyAbove_11 : decode cX1_leastKeyAbove 11 = .ok (.getfield 37, 3) := by decide +kernel
theorem dX1_leastKeyAbove_14 : decode cX1_leastKeyAbove 14 = .ok (.if_icmp .ge 41, 3) := by decide +kernel
theorem dX1_leastKeyAbove_17 : decode cX1_leastKeyAbove 17 = .ok (.aload_n 0, 1) := by decide +kernel
theorem dX1_leastKeyAbove_18 : decode cX1_leastKeyAbove 18 = .ok (.iload 8, 2) := by decide +kernel
theorem dX1_leastKeyAbove_20 : decode cX1_leastKeyAbove 20 = .ok (.iload_n 3, 1) := by decide +kernel
theorem dX1_leastKeyAbove_21 : decode cX1_leastKeyAbove 21 = .ok (.iload 4, 2) := by decide +kernel
theorem dX1_leastKeyAbove_23 : decode cX1_leastKeyAbove 23 = .ok (.iload 5, 2) := by decide +kernel
theorem dX1_leastKeyAbove_25 : decode cX1_leastKeyAbove 25 = .ok (.invokevirtual 107, 3) := by decide +kernel
theorem dX1_leastKeyAbove_28 : decode cX1_leastKeyAbove 28 = .ok (.lstore 9, 2) := by decide +kernel
theorem dX1_leastKeyAbove_30 : decode cX1_leastKeyAbove 30 = .ok (.lload 9, 2) := by decide +kernel
theorem dX1_leastKeyAbove_32 : decode cX1_leastKeyAbove 32 = .ok (.lload_n 1, 1) := by decide +kernel
theorem dX1_leastKeyAbove_33 : decode cX1_leastKeyAbove 33 = .ok (.lcmp, 1) := by decide +kernel
theorem dX1_leastKeyAbove_34 : decode cX1_leastKeyAbove 34 = .ok (.ifCond .le 15, 3) := by decide +kernel
theorem dX1_leastKeyAbove_37 : decode cX1_leastKeyAbove 37 = .ok (.lload 9, 2) := by decide +kernel
theorem dX1_leastKeyAbove_39 : decode cX1_leastKeyAbove 39 = .ok (.lload 6, 2) := by decide +kernel
theorem dX1_leastKeyAbove_41 : decode cX1_leastKeyAbove 41 = .ok (.lcmp, 1) := by decide +kernel
theorem dX1_leastKeyAbove_42 : decode cX1_leastKeyAbove 42 = .ok (.ifCond .ge 7, 3) := by decide +kernel
theorem dX1_leastKeyAbove_45 : decode cX1_leastKeyAbove 45 = .ok (.lload 9, 2) := by decide +kernel
theorem dX1_leastKeyAbove_47 : decode cX1_leastKeyAbove 47 = .ok (.lstore 6, 2) := by decide +kernel
theorem dX1_leastKeyAbove_49 : decode cX1_leastKeyAbove 49 = .ok (.iinc 8 1, 3) := by decide +kernel
theorem dX1_leastKeyAbove_52 : decode cX1_leastKeyAbove 52 = .ok (.goto (-44), 3) := by decide +kernel
theorem dX1_leastKeyAbove_55 : decode cX1_leastKeyAbove 55 = .ok (.lload 6, 2) := by decide +kernel
theorem dX1_leastKeyAbove_57 : decode cX1_leastKeyAbove 57 = .ok (.lreturn, 1) := by decide +kernel
theorem dX1_distanceKey_0 : decode cX1_distanceKey 0 = .ok (.aload_n 0, 1) := by decide +kernel
theorem dX1_distanceKey_1 : decode cX1_distanceKey 1 = .ok (.getfield 15, 3) := by decide +kernel
theorem dX1_distanceKey_4 : decode cX1_distanceKey 4 = .ok (.iload_n 1, 1) := by decide +kernel
theorem dX1_distanceKey_5 : decode cX1_distanceKey 5 = .ok (.iaload, 1) := by decide +kernel
theorem dX1_distanceKey_6 : decode cX1_distanceKey 6 = .ok (.iload_n 2, 1) := by decide +kernel
theorem dX1_distanceKey_7 : decode cX1_distanceKey 7 = .ok (.isub, 1) := by decide +kernel
theorem dX1_distanceKey_8 : decode cX1_distanceKey 8 = .ok (.istore 5, 2) := by decide +kernel
theorem dX1_distanceKey_10 : decode cX1_distanceKey 10 = .ok (.aload_n 0, 1) := by decide +kernel
theorem dX1_distanceKey_11 : decode cX1_distanceKey 11 = .ok (.getfield 18, 3) := by decide +kernel
theorem dX1_distanceKey_14 : decode cX1_distanceKey 14 = .ok (.iload_n 1, 1) := by decide +kernel
theorem dX1_distanceKey_15 : decode cX1_distanceKey 15 = .ok (.iaload, 1) := by decide +kernel
theorem dX1_distanceKey_16 : decode cX1_distanceKey 16 = .ok (.iload_n 3, 1) := by decide +kernel
theorem dX1_distanceKey_17 : decode cX1_distanceKey 17 = .ok (.isub, 1) := by decide +kernel
theorem dX1_distanceKey_18 : decode cX1_distanceKey 18 = .ok (.istore 6, 2) := by decide +kernel
theorem dX1_distanceKey_20 : decode cX1_distanceKey 20 = .ok (.aload_n 0, 1) := by decide +kernel
theorem dX1_distanceKey_21 : decode cX1_distanceKey 21 = .ok (.getfield 21, 3) := by decide +kernel
theorem dX1_distanceKey_24 : decode cX1_distanceKey 24 = .ok (.iload_n 1, 1) := by decide +kernel
theorem dX1_distanceKey_25 : decode cX1_distanceKey 25 = .ok (.iaload, 1) := by decide +kernel
theorem dX1_distanceKey_26 : decode cX1_distanceKey 26 = .ok (.iload 4, 2) := by decide +kernel
theorem dX1_distanceKey_28 : decode cX1_distanceKey 28 = .ok (.isub, 1) := by decide +kernel
theorem dX1_distanceKey_29 : decode cX1_distanceKey 29 = .ok (.istore 7, 2) := by decide +kernel
theorem dX1_distanceKey_31 : decode cX1_distanceKey 31 = .ok (.iload 5, 2) := by decide +kernel
theorem dX1_distanceKey_33 : decode cX1_distanceKey 33 = .ok (.iload 5, 2) := by decide +kernel
theorem dX1_distanceKey_35 : decode cX1_distanceKey 35 = .ok (.imul, 1) := by decide +kernel
theorem dX1_distanceKey_36 : decode cX1_distanceKey 36 = .ok (.iload 6, 2) := by decide +kernel
theorem dX1_distanceKey_38 : decode cX1_distanceKey 38 = .ok (.iload 6, 2) := by decide +kernel
theorem dX1_distanceKey_40 : decode cX1_distanceKey 40 = .ok (.imul, 1) := by decide +kernel
theorem dX1_distanceKey_41 : decode cX1_distanceKey 41 = .ok (.iadd, 1) := by decide +kernel
theorem dX1_distanceKey_42 : decode cX1_distanceKey 42 = .ok (.iload 7, 2) := by decide +kernel
theorem dX1_distanceKey_44 : decode cX1_distanceKey 44 = .ok (.iload 7, 2) := by decide +kernel
theorem dX1_distanceKey_46 : decode cX1_distanceKey 46 = .ok (.imul, 1) := by decide +kernel
theorem dX1_distanceKey_47 : decode cX1_distanceKey 47 = .ok (.iadd, 1) := by decide +kernel
theorem dX1_distanceKey_48 : decode cX1_distanceKey 48 = .ok (.i2l, 1) := by decide +kernel
theorem dX1_distanceKey_49 : decode cX1_distanceKey 49 = .ok (.ldc2_w 111, 3) := by decide +kernel
theorem dX1_distanceKey_52 : decode cX1_distanceKey 52 = .ok (.lmul, 1) := by decide +kernel
theorem dX1_distanceKey_53 : decode cX1_distanceKey 53 = .ok (.aload_n 0, 1) := by decide +kernel
theorem dX1_distanceKey_54 : decode cX1_distanceKey 54 = .ok (.getfield 9, 3) := by decide +kernel
theorem dX1_distanceKey_57 : decode cX1_distanceKey 57 = .ok (.iload_n 1, 1) := by decide +kernel
theorem dX1_distanceKey_58 : decode cX1_distanceKey 58 = .ok (.iaload, 1) := by decide +kernel
theorem dX1_distanceKey_59 : decode cX1_distanceKey 59 = .ok (.i2l, 1) := by decide +kernel
theorem dX1_distanceKey_60 : decode cX1_distanceKey 60 = .ok (.ladd, 1) := by decide +kernel
theorem dX1_distanceKey_61 : decode cX1_distanceKey 61 = .ok (.lreturn, 1) := by decide +kernel
