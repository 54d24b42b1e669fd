/-! decode rows: PointShelf. By wip/names.py. -/
theorem dX2_init_0 : decode cX2_init 0 = .ok (.aload_n 0, 1) := by decide +kernel
theorem dX2_init_1 : decode cX2_init 1 = .ok (.invokespecial 1, 3) := by decide +kernel
theorem dX2_init_4 : decode cX2_init 4 = .ok (.aload_n 0, 1) := by decide +kernel
theorem dX2_init_5 : decode cX2_init 5 = .ok (.new 7, 3) := by decide +kernel
theorem dX2_init_8 : decode cX2_init 8 = .ok (.dup, 1) := by decide +kernel
theorem dX2_init_9 : decode cX2_init 9 = .ok (.invokespecial 9, 3) := by decide +kernel
theorem dX2_init_12 : decode cX2_init 12 = .ok (.putfield 10, 3) := by decide +kernel
theorem dX2_init_15 : decode cX2_init 15 = .ok (.aload_n 0, 1) := by decide +kernel
theorem dX2_init_16 : decode cX2_init 16 = .ok (.new 7, 3) := by decide +kernel
theorem dX2_init_19 : decode cX2_init 19 = .ok (.dup, 1) := by decide +kernel
theorem dX2_init_20 : decode cX2_init 20 = .ok (.invokespecial 9, 3) := by decide +kernel
theorem dX2_init_23 : decode cX2_init 23 = .ok (.putfield 16, 3) := by decide +kernel
theorem dX2_init_26 : decode cX2_init 26 = .ok (.aload_n 0, 1) := by decide +kernel
theorem dX2_init_27 : decode cX2_init 27 = .ok (.new 19, 3) := by decide +kernel
theorem dX2_init_30 : decode cX2_init 30 = .ok (.dup, 1) := by decide +kernel
theorem dX2_init_31 : decode cX2_init 31 = .ok (.invokespecial 21, 3) := by decide +kernel
theorem dX2_init_34 : decode cX2_init 34 = .ok (.putfield 22, 3) := by decide +kernel
theorem dX2_init_37 : decode cX2_init 37 = .ok (.aload_n 0, 1) := by decide +kernel
theorem dX2_init_38 : decode cX2_init 38 = .ok (.iconst (-1), 1) := by decide +kernel
theorem dX2_init_39 : decode cX2_init 39 = .ok (.putfield 26, 3) := by decide +kernel
theorem dX2_init_42 : decode cX2_init 42 = .ok (.return_, 1) := by decide +kernel
theorem dX2_add_0 : decode cX2_add 0 = .ok (.iload_n 2, 1) := by decide +kernel
theorem dX2_add_1 : decode cX2_add 1 = .ok (.iload_n 3, 1) := by decide +kernel
theorem dX2_add_2 : decode cX2_add 2 = .ok (.iload 4, 2) := by decide +kernel
theorem dX2_add_4 : decode cX2_add 4 = .ok (.invokestatic 30, 3) := by decide +kernel
theorem dX2_add_7 : decode cX2_add 7 = .ok (.aload_n 0, 1) := by decide +kernel
theorem dX2_add_8 : decode cX2_add 8 = .ok (.getfield 10, 3) := by decide +kernel
theorem dX2_add_11 : decode cX2_add 11 = .ok (.iload_n 1, 1) := by decide +kernel
theorem dX2_add_12 : decode cX2_add 12 = .ok (.invokevirtual 34, 3) := by decide +kernel
theorem dX2_add_15 : decode cX2_add 15 = .ok (.iconst (-1), 1) := by decide +kernel
theorem dX2_add_16 : decode cX2_add 16 = .ok (.if_icmp .eq 13, 3) := by decide +kernel
theorem dX2_add_19 : decode cX2_add 19 = .ok (.new 38, 3) := by decide +kernel
theorem dX2_add_22 : decode cX2_add 22 = .ok (.dup, 1) := by decide +kernel
theorem dX2_add_23 : decode cX2_add 23 = .ok (.ldc 40, 2) := by decide +kernel
theorem dX2_add_25 : decode cX2_add 25 = .ok (.invokespecial 42, 3) := by decide +kernel
theorem dX2_add_28 : decode cX2_add 28 = .ok (.athrow, 1) := by decide +kernel
theorem dX2_add_29 : decode cX2_add 29 = .ok (.aload_n 0, 1) := by decide +kernel
theorem dX2_add_30 : decode cX2_add 30 = .ok (.getfield 10, 3) := by decide +kernel
theorem dX2_add_33 : decode cX2_add 33 = .ok (.invokevirtual 45, 3) := by decide +kernel
theorem dX2_add_36 : decode cX2_add 36 = .ok (.bipush 48, 2) := by decide +kernel
theorem dX2_add_38 : decode cX2_add 38 = .ok (.if_icmp .lt 13, 3) := by decide +kernel
theorem dX2_add_41 : decode cX2_add 41 = .ok (.new 38, 3) := by decide +kernel
theorem dX2_add_44 : decode cX2_add 44 = .ok (.dup, 1) := by decide +kernel
theorem dX2_add_45 : decode cX2_add 45 = .ok (.ldc 49, 2) := by decide +kernel
theorem dX2_add_47 : decode cX2_add 47 = .ok (.invokespecial 42, 3) := by decide +kernel
theorem dX2_add_50 : decode cX2_add 50 = .ok (.athrow, 1) := by decide +kernel
theorem dX2_add_51 : decode cX2_add 51 = .ok (.aload_n 0, 1) := by decide +kernel
theorem dX2_add_52 : decode cX2_add 52 = .ok (.getfield 10, 3) := by decide +kernel
theorem dX2_add_55 : decode cX2_add 55 = .ok (.aload_n 0, 1) := by decide +kernel
theorem dX2_add_56 : decode cX2_add 56 = .ok (.getfield 10, 3) := by decide +kernel
theorem dX2_add_59 : decode cX2_add 59 = .ok (.iload_n 1, 1) := by decide +kernel
theorem dX2_add_60 : decode cX2_add 60 = .ok (.iload_n 2, 1) := by decide +kernel
theorem dX2_add_61 : decode cX2_add 61 = .ok (.iload_n 3, 1) := by decide +kernel
theorem dX2_add_62 : decode cX2_add 62 = .ok (.iload 4, 2) := by decide +kernel
theorem dX2_add_64 : decode cX2_add 64 = .ok (.iload 5, 2) := by decide +kernel
theorem dX2_add_66 : decode cX2_add 66 = .ok (.invokevirtual 51, 3) := by decide +kernel
theorem dX2_add_69 : decode cX2_add 69 = .ok (.invokevirtual 55, 3) := by decide +kernel
theorem dX2_add_72 : decode cX2_add 72 = .ok (.ireturn, 1) := by decide +kernel
theorem dX2_remove_0 : decode cX2_remove 0 = .ok (.aload_n 0, 1) := by decide +kernel
theorem dX2_remove_1 : decode cX2_remove 1 = .ok (.iload_n 1, 1) := by decide +kernel
theorem dX2_remove_2 : decode cX2_remove 2 = .ok (.invokevirtual 58, 3) := by decide +kernel
theorem dX2_remove_5 : decode cX2_remove 5 = .ok (.istore_n 2, 1) := by decide +kernel
theorem dX2_remove_6 : decode cX2_remove 6 = .ok (.aload_n 0, 1) := by decide +kernel
theorem dX2_remove_7 : decode cX2_remove 7 = .ok (.getfield 10, 3) := by decide +kernel
theorem dX2_remove_10 : decode cX2_remove 10 = .ok (.iload_n 2, 1) := by decide +kernel
theorem dX2_remove_11 : decode cX2_remove 11 = .ok (.invokevirtual 55, 3) := by decide +kernel
theorem dX2_remove_14 : decode cX2_remove 14 = .ok (.istore_n 3, 1) := by decide +kernel
theorem dX2_remove_15 : decode cX2_remove 15 = .ok (.aload_n 0, 1) := by decide +kernel
theorem dX2_remove_16 : decode cX2_remove 16 = .ok (.getfield 10, 3) := by decide +kernel
theorem dX2_remove_19 : decode cX2_remove 19 = .ok (.iload_n 2, 1) := by decide +kernel
theorem dX2_remove_20 : decode cX2_remove 20 = .ok (.invokevirtual 61, 3) := by decide +kernel
theorem dX2_remove_23 : decode cX2_remove 23 = .ok (.iload_n 3, 1) := by decide +kernel
theorem dX2_remove_24 : decode cX2_remove 24 = .ok (.ireturn, 1) := by decide +kernel
theorem dX2_recolour_0 : decode cX2_recolour 0 = .ok (.aload_n 0, 1) := by decide +kernel
theorem dX2_recolour_1 : decode cX2_recolour 1 = .ok (.iload_n 1, 1) := by decide +kernel
theorem dX2_recolour_2 : decode cX2_recolour 2 = .ok (.invokevirtual 58, 3) := by decide +kernel
theorem dX2_recolour_5 : decode cX2_recolour 5 = .ok (.istore_n 3, 1) := by decide +kernel
theorem dX2_recolour_6 : decode cX2_recolour 6 = .ok (.aload_n 0, 1) := by decide +kernel
theorem dX2_recolour_7 : decode cX2_recolour 7 = .ok (.getfield 10, 3) := by decide +kernel
theorem dX2_recolour_10 : decode cX2_recolour 10 = .ok (.iload_n 3, 1) := by decide +kernel
theorem dX2_recolour_11 : decode cX2_recolour 11 = .ok (.invokevirtual 65, 3) := by decide +kernel
theorem dX2_recolour_14 : decode cX2_recolour 14 = .ok (.istore 4, 2) := by decide +kernel
theorem dX2_recolour_16 : decode cX2_recolour 16 = .ok (.aload_n 0, 1) := by decide +kernel
theorem dX2_recolour_17 : decode cX2_recolour 17 = .ok (.getfield 10, 3) := by decide +kernel
theorem dX2_recolour_20 : decode cX2_recolour 20 = .ok (.iload_n 3, 1) := by decide +kernel
theorem dX2_recolour_21 : decode cX2_recolour 21 = .ok (.iload_n 2, 1) := by decide +kernel
theorem dX2_recolour_22 : decode cX2_recolour 22 = .ok (.invokevirtual 68, 3) := by decide +kernel
theorem dX2_recolour_25 : decode cX2_recolour 25 = .ok (.iload 4, 2) := by decide +kernel
theorem dX2_recolour_27 : decode cX2_recolour 27 = .ok (.ireturn, 1) := by decide +kernel
theorem dX2_field_0 : decode cX2_field 0 = .ok (.iload_n 2, 1) := by decide +kernel
theorem dX2_field_1 : decode cX2_field 1 = .ok (.ifCond .lt 8, 3) := by decide +kernel
theorem dX2_field_4 : decode cX2_field 4 = .ok (.iload_n 2, 1) := by decide +kernel
theorem dX2_field_5 : decode cX2_field 5 = .ok (.iconst 4, 1) := by decide +kernel
theorem dX2_field_6 : decode cX2_field 6 = .ok (.if_icmp .le 13, 3) := by decide +kernel
theorem dX2_field_9 : decode cX2_field 9 = .ok (.new 72, 3) := by decide +kernel
theorem dX2_field_12 : decode cX2_field 12 = .ok (.dup, 1) := by decide +kernel
theorem dX2_field_13 : decode cX2_field 13 = .ok (.ldc 74, 2) := by decide +kernel
theorem dX2_field_15 : decode cX2_field 15 = .ok (.invokespecial 76, 3) := by decide +kernel
theorem dX2_field_18 : decode cX2_field 18 = .ok (.athrow, 1) := by decide +kernel
theorem dX2_field_19 : decode cX2_field 19 = .ok (.aload_n 0, 1) := by decide +kernel
theorem dX2_field_20 : decode cX2_field 20 = .ok (.iload_n 1, 1) := by decide +kernel
theorem dX2_field_21 : decode cX2_field 21 = .ok (.invokevirtual 58, 3) := by decide +kernel
theorem dX2_field_24 : decode cX2_field 24 = .ok (.istore_n 3, 1) := by decide +kernel
theorem dX2_field_25 : decode cX2_field 25 = .ok (.iload_n 2, 1) := by decide +kernel
theorem dX2_field_26 : decode cX2_field 26 = .ok (.tableswitch 66 0 3 #[30, 39, 48, 57], 30) := by decide +kernel
theorem dX2_field_56 : decode cX2_field 56 = .ok (.aload_n 0, 1) := by decide +kernel
theorem dX2_field_57 : decode cX2_field 57 = .ok (.getfield 10, 3) := by decide +kernel
theorem dX2_field_60 : decode cX2_field 60 = .ok (.iload_n 3, 1) := by decide +kernel
theorem dX2_field_61 : decode cX2_field 61 = .ok (.invokevirtual 77, 3) := by decide +kernel
theorem dX2_field_64 : decode cX2_field 64 = .ok (.ireturn, 1) := by decide +kernel
theorem dX2_field_65 : decode cX2_field 65 = .ok (.aload_n 0, 1) := by decide +kernel
theorem dX2_field_66 : decode cX2_field 66 = .ok (.getfield 10, 3) := by decide +kernel
theorem dX2_field_69 : decode cX2_field 69 = .ok (.iload_n 3, 1) := by decide +kernel
theorem dX2_field_70 : decode cX2_field 70 = .ok (.invokevirtual 80, 3) := by decide +kernel
theorem dX2_field_73 : decode cX2_field 73 = .ok (.ireturn, 1) := by decide +kernel
theorem dX2_field_74 : decode cX2_field 74 = .ok (.aload_n 0, 1) := by decide +kernel
theorem dX2_field_75 : decode cX2_field 75 = .ok (.getfield 10, 3) := by decide +kernel
theorem dX2_field_78 : decode cX2_field 78 = .ok (.iload_n 3, 1) := by decide +kernel
theorem dX2_field_79 : decode cX2_field 79 = .ok (.invokevirtual 83, 3) := by decide +kernel
theorem dX2_field_82 : decode cX2_field 82 = .ok (.ireturn, 1) := by decide +kernel
theorem dX2_field_83 : decode cX2_field 83 = .ok (.aload_n 0, 1) := by decide +kernel
theorem dX2_field_84 : decode cX2_field 84 = .ok (.getfield 10, 3) := by decide +kernel
theorem dX2_field_87 : decode cX2_field 87 = .ok (.iload_n 3, 1) := by decide +kernel
theorem dX2_field_88 : decode cX2_field 88 = .ok (.invokevirtual 65, 3) := by decide +kernel
theorem dX2_field_91 : decode cX2_field 91 = .ok (.ireturn, 1) := by decide +kernel
theorem dX2_field_92 : decode cX2_field 92 = .ok (.aload_n 0, 1) := by decide +kernel
theorem dX2_field_93 : decode cX2_field 93 = .ok (.getfield 10, 3) := by decide +kernel
theorem dX2_field_96 : decode cX2_field 96 = .ok (.iload_n 3, 1) := by decide +kernel
theorem dX2_field_97 : decode cX2_field 97 = .ok (.invokevirtual 55, 3) := by decide +kernel
theorem dX2_field_100 : decode cX2_field 100 = .ok (.ireturn, 1) := by decide +kernel
theorem dX2_corner_0 : decode cX2_corner 0 = .ok (.iload_n 1, 1) := by decide +kernel
theorem dX2_corner_1 : decode cX2_corner 1 = .ok (.iload_n 2, 1) := by decide +kernel
theorem dX2_corner_2 : decode cX2_corner 2 = .ok (.iload_n 3, 1) := by decide +kernel
theorem dX2_corner_3 : decode cX2_corner 3 = .ok (.invokestatic 30, 3) := by decide +kernel
theorem dX2_corner_6 : decode cX2_corner 6 = .ok (.aload_n 0, 1) := by decide +kernel
theorem dX2_corner_7 : decode cX2_corner 7 = .ok (.iload_n 1, 1) := by decide +kernel
theorem dX2_corner_8 : decode cX2_corner 8 = .ok (.iload_n 2, 1) := by decide +kernel
theorem dX2_corner_9 : decode cX2_corner 9 = .ok (.iload_n 3, 1) := by decide +kernel
theorem dX2_corner_10 : decode cX2_corner 10 = .ok (.invokevirtual 86, 3) := by decide +kernel
theorem dX2_corner_13 : decode cX2_corner 13 = .ok (.return_, 1) := by decide +kernel
theorem dX2_box_0 : decode cX2_box 0 = .ok (.iload_n 1, 1) := by decide +kernel
theorem dX2_box_1 : decode cX2_box 1 = .ok (.iload_n 2, 1) := by decide +kernel
theorem dX2_box_2 : decode cX2_box 2 = .ok (.iload_n 3, 1) := by decide +kernel
theorem dX2_box_3 : decode cX2_box 3 = .ok (.invokestatic 30, 3) := by decide +kernel
theorem dX2_box_6 : decode cX2_box 6 = .ok (.iload 4, 2) := by decide +kernel
theorem dX2_box_8 : decode cX2_box 8 = .ok (.invokestatic 89, 3) := by decide +kernel
theorem dX2_box_11 : decode cX2_box 11 = .ok (.ifCond .ne 13, 3) := by decide +kernel
theorem dX2_box_14 : decode cX2_box 14 = .ok (.new 72, 3) := by decide +kernel
theorem dX2_box_17 : decode cX2_box 17 = .ok (.dup, 1) := by decide +kernel
theorem dX2_box_18 : decode cX2_box 18 = .ok (.ldc 93, 2) := by decide +kernel
theorem dX2_box_20 : decode cX2_box 20 = .ok (.invokespecial 76, 3) := by decide +kernel
theorem dX2_box_23 : decode cX2_box 23 = .ok (.athrow, 1) := by decide +kernel
theorem dX2_box_24 : decode cX2_box 24 = .ok (.aload_n 0, 1) := by decide +kernel
theorem dX2_box_25 : decode cX2_box 25 = .ok (.getfield 22, 3) := by decide +kernel
theorem dX2_box_28 : decode cX2_box 28 = .ok (.invokevirtual 95, 3) := by decide +kernel
theorem dX2_box_31 : decode cX2_box 31 = .ok (.iconst 0, 1) := by decide +kernel
theorem dX2_box_32 : decode cX2_box 32 = .ok (.istore 5, 2) := by decide +kernel
theorem dX2_box_34 : decode cX2_box 34 = .ok (.iload 5, 2) := by decide +kernel
theorem dX2_box_36 : decode cX2_box 36 = .ok (.aload_n 0, 1) := by decide +kernel
theorem dX2_box_37 : decode cX2_box 37 = .ok (.getfield 10, 3) := by decide +kernel
theorem dX2_box_40 : decode cX2_box 40 = .ok (.invokevirtual 45, 3) := by decide +kernel
theorem dX2_box_43 : decode cX2_box 43 = .ok (.if_icmp .ge 51, 3) := by decide +kernel
theorem dX2_box_46 : decode cX2_box 46 = .ok (.aload_n 0, 1) := by decide +kernel
theorem dX2_box_47 : decode cX2_box 47 = .ok (.getfield 10, 3) := by decide +kernel
theorem dX2_box_50 : decode cX2_box 50 = .ok (.iload 5, 2) := by decide +kernel
theorem dX2_box_52 : decode cX2_box 52 = .ok (.invokevirtual 55, 3) := by decide +kernel
theorem dX2_box_55 : decode cX2_box 55 = .ok (.iload 4, 2) := by decide +kernel
theorem dX2_box_57 : decode cX2_box 57 = .ok (.if_icmp .gt 31, 3) := by decide +kernel
theorem dX2_box_60 : decode cX2_box 60 = .ok (.aload_n 0, 1) := by decide +kernel
theorem dX2_box_61 : decode cX2_box 61 = .ok (.iload 5, 2) := by decide +kernel
theorem dX2_box_63 : decode cX2_box 63 = .ok (.iload_n 1, 1) := by decide +kernel
theorem dX2_box_64 : decode cX2_box 64 = .ok (.iload_n 2, 1) := by decide +kernel
theorem dX2_box_65 : decode cX2_box 65 = .ok (.iload_n 3, 1) := by decide +kernel
theorem dX2_box_66 : decode cX2_box 66 = .ok (.invokevirtual 98, 3) := by decide +kernel
theorem dX2_box_69 : decode cX2_box 69 = .ok (.ifCond .eq 19, 3) := by decide +kernel
theorem dX2_box_72 : decode cX2_box 72 = .ok (.aload_n 0, 1) := by decide +kernel
theorem dX2_box_73 : decode cX2_box 73 = .ok (.getfield 22, 3) := by decide +kernel
theorem dX2_box_76 : decode cX2_box 76 = .ok (.aload_n 0, 1) := by decide +kernel
theorem dX2_box_77 : decode cX2_box 77 = .ok (.getfield 10, 3) := by decide +kernel
theorem dX2_box_80 : decode cX2_box 80 = .ok (.iload 5, 2) := by decide +kernel
theorem dX2_box_82 : decode cX2_box 82 = .ok (.invokevirtual 102, 3) := by decide +kernel
theorem dX2_box_85 : decode cX2_box 85 = .ok (.invokevirtual 105, 3) := by decide +kernel
theorem dX2_box_88 : decode cX2_box 88 = .ok (.iinc 5 1, 3) := by decide +kernel
theorem dX2_box_91 : decode cX2_box 91 = .ok (.goto (-57), 3) := by decide +kernel
theorem dX2_box_94 : decode cX2_box 94 = .ok (.aload_n 0, 1) := by decide +kernel
theorem dX2_box_95 : decode cX2_box 95 = .ok (.getfield 22, 3) := by decide +kernel
theorem dX2_box_98 : decode cX2_box 98 = .ok (.invokevirtual 107, 3) := by decide +kernel
theorem dX2_box_101 : decode cX2_box 101 = .ok (.ireturn, 1) := by decide +kernel
theorem dX2_next_0 : decode cX2_next 0 = .ok (.aload_n 0, 1) := by decide +kernel
theorem dX2_next_1 : decode cX2_next 1 = .ok (.getfield 22, 3) := by decide +kernel
theorem dX2_next_4 : decode cX2_next 4 = .ok (.invokevirtual 108, 3) := by decide +kernel
theorem dX2_next_7 : decode cX2_next 7 = .ok (.ireturn, 1) := by decide +kernel
theorem dX2_count_0 : decode cX2_count 0 = .ok (.iload_n 1, 1) := by decide +kernel
theorem dX2_count_1 : decode cX2_count 1 = .ok (.iload_n 2, 1) := by decide +kernel
theorem dX2_count_2 : decode cX2_count 2 = .ok (.iload_n 3, 1) := by decide +kernel
theorem dX2_count_3 : decode cX2_count 3 = .ok (.invokestatic 30, 3) := by decide +kernel
theorem dX2_count_6 : decode cX2_count 6 = .ok (.iconst 0, 1) := by decide +kernel
theorem dX2_count_7 : decode cX2_count 7 = .ok (.istore 4, 2) := by decide +kernel
theorem dX2_count_9 : decode cX2_count 9 = .ok (.iconst 0, 1) := by decide +kernel
theorem dX2_count_10 : decode cX2_count 10 = .ok (.istore 5, 2) := by decide +kernel
theorem dX2_count_12 : decode cX2_count 12 = .ok (.iload 5, 2) := by decide +kernel
theorem dX2_count_14 : decode cX2_count 14 = .ok (.aload_n 0, 1) := by decide +kernel
theorem dX2_count_15 : decode cX2_count 15 = .ok (.getfield 10, 3) := by decide +kernel
theorem dX2_count_18 : decode cX2_count 18 = .ok (.invokevirtual 45, 3) := by decide +kernel
theorem dX2_count_21 : decode cX2_count 21 = .ok (.if_icmp .ge 24, 3) := by decide +kernel
theorem dX2_count_24 : decode cX2_count 24 = .ok (.aload_n 0, 1) := by decide +kernel
theorem dX2_count_25 : decode cX2_count 25 = .ok (.iload 5, 2) := by decide +kernel
theorem dX2_count_27 : decode cX2_count 27 = .ok (.iload_n 1, 1) := by decide +kernel
theorem dX2_count_28 : decode cX2_count 28 = .ok (.iload_n 2, 1) := by decide +kernel
theorem dX2_count_29 : decode cX2_count 29 = .ok (.iload_n 3, 1) := by decide +kernel
theorem dX2_count_30 : decode cX2_count 30 = .ok (.invokevirtual 98, 3) := by decide +kernel
theorem dX2_count_33 : decode cX2_count 33 = .ok (.ifCond .eq 6, 3) := by decide +kernel
theorem dX2_count_36 : decode cX2_count 36 = .ok (.iinc 4 1, 3) := by decide +kernel
theorem dX2_count_39 : decode cX2_count 39 = .ok (.iinc 5 1, 3) := by decide +kernel
theorem dX2_count_42 : decode cX2_count 42 = .ok (.goto (-30), 3) := by decide +kernel
theorem dX2_count_45 : decode cX2_count 45 = .ok (.iload 4, 2) := by decide +kernel
theorem dX2_count_47 : decode cX2_count 47 = .ok (.ireturn, 1) := by decide +kernel
theorem dX2_nearest_0 : decode cX2_nearest 0 = .ok (.iload_n 1, 1) := by decide +kernel
theorem dX2_nearest_1 : decode cX2_nearest 1 = .ok (.iload_n 2, 1) := by decide +kernel
theorem dX2_nearest_2 : decode cX2_nearest 2 = .ok (.iload_n 3, 1) := by decide +kernel
theorem dX2_nearest_3 : decode cX2_nearest 3 = .ok (.invokestatic 30, 3) := by decide +kernel
theorem dX2_nearest_6 : decode cX2_nearest 6 = .ok (.iload 4, 2) := by decide +kernel
theorem dX2_nearest_8 : decode cX2_nearest 8 = .ok (.iconst 1, 1) := by decide +kernel
theorem dX2_nearest_9 : decode cX2_nearest 9 = .ok (.if_icmp .ge 13, 3) := by decide +kernel
theorem dX2_nearest_12 : decode cX2_nearest 12 = .ok (.new 72, 3) := by decide +kernel
theorem dX2_nearest_15 : decode cX2_nearest 15 = .ok (.dup, 1) := by decide +kernel
theorem dX2_nearest_16 : decode cX2_nearest 16 = .ok (.ldc 111, 2) := by decide +kernel
theorem dX2_nearest_18 : decode cX2_nearest 18 = .ok (.invokespecial 76, 3) := by decide +kernel
theorem dX2_nearest_21 : decode cX2_nearest 21 = .ok (.athrow, 1) := by decide +kernel
theorem dX2_nearest_22 : decode cX2_nearest 22 = .ok (.iload 4, 2) := by decide +kernel
theorem dX2_nearest_24 : decode cX2_nearest 24 = .ok (.aload_n 0, 1) := by decide +kernel
theorem dX2_nearest_25 : decode cX2_nearest 25 = .ok (.getfield 10, 3) := by decide +kernel
theorem dX2_nearest_28 : decode cX2_nearest 28 = .ok (.invokevirtual 45, 3) := by decide +kernel
theorem dX2_nearest_31 : decode cX2_nearest 31 = .ok (.if_icmp .le 13, 3) := by decide +kernel
theorem dX2_nearest_34 : decode cX2_nearest 34 = .ok (.new 113, 3) := by decide +kernel
theorem dX2_nearest_37 : decode cX2_nearest 37 = .ok (.dup, 1) := by decide +kernel
theorem dX2_nearest_38 : decode cX2_nearest 38 = .ok (.ldc 115, 2) := by decide +kernel
theorem dX2_nearest_40 : decode cX2_nearest 40 = .ok (.invokespecial 117, 3) := by decide +kernel
theorem dX2_nearest_43 : decode cX2_nearest 43 = .ok (.athrow, 1) := by decide +kernel
theorem dX2_nearest_44 : decode cX2_nearest 44 = .ok (.aload_n 0, 1) := by decide +kernel
theorem dX2_nearest_45 : decode cX2_nearest 45 = .ok (.getfield 10, 3) := by decide +kernel
theorem dX2_nearest_48 : decode cX2_nearest 48 = .ok (.iload_n 1, 1) := by decide +kernel
theorem dX2_nearest_49 : decode cX2_nearest 49 = .ok (.iload_n 2, 1) := by decide +kernel
theorem dX2_nearest_50 : decode cX2_nearest 50 = .ok (.iload_n 3, 1) := by decide +kernel
theorem dX2_nearest_51 : decode cX2_nearest 51 = .ok (.iload 4, 2) := by decide +kernel
theorem dX2_nearest_53 : decode cX2_nearest 53 = .ok (.invokevirtual 118, 3) := by decide +kernel
theorem dX2_nearest_56 : decode cX2_nearest 56 = .ok (.ireturn, 1) := by decide +kernel
theorem dX2_kept_0 : decode cX2_kept 0 = .ok (.iload_n 1, 1) := by decide +kernel
theorem dX2_kept_1 : decode cX2_kept 1 = .ok (.iload_n 2, 1) := by decide +kernel
theorem dX2_kept_2 : decode cX2_kept 2 = .ok (.iload_n 3, 1) := by decide +kernel
theorem dX2_kept_3 : decode cX2_kept 3 = .ok (.iload 4, 2) := by decide +kernel
theorem dX2_kept_5 : decode cX2_kept 5 = .ok (.invokestatic 122, 3) := by decide +kernel
theorem dX2_kept_8 : decode cX2_kept 8 = .ok (.ifCond .ne 13, 3) := by decide +kernel
theorem dX2_kept_11 : decode cX2_kept 11 = .ok (.new 72, 3) := by decide +kernel
theorem dX2_kept_14 : decode cX2_kept 14 = .ok (.dup, 1) := by decide +kernel
theorem dX2_kept_15 : decode cX2_kept 15 = .ok (.ldc 125, 2) := by decide +kernel
theorem dX2_kept_17 : decode cX2_kept 17 = .ok (.invokespecial 76, 3) := by decide +kernel
theorem dX2_kept_20 : decode cX2_kept 20 = .ok (.athrow, 1) := by decide +kernel
theorem dX2_kept_21 : decode cX2_kept 21 = .ok (.aload_n 0, 1) := by decide +kernel
theorem dX2_kept_22 : decode cX2_kept 22 = .ok (.getfield 10, 3) := by decide +kernel
theorem dX2_kept_25 : decode cX2_kept 25 = .ok (.iload_n 1, 1) := by decide +kernel
theorem dX2_kept_26 : decode cX2_kept 26 = .ok (.iload_n 2, 1) := by decide +kernel
theorem dX2_kept_27 : decode cX2_kept 27 = .ok (.iload_n 3, 1) := by decide +kernel
theorem dX2_kept_28 : decode cX2_kept 28 = .ok (.iload 4, 2) := by decide +kernel
theorem dX2_kept_30 : decode cX2_kept 30 = .ok (.iload 5, 2) := by decide +kernel
theorem dX2_kept_32 : decode cX2_kept 32 = .ok (.invokevirtual 127, 3) := by decide +kernel
theorem dX2_kept_35 : decode cX2_kept 35 = .ok (.istore 6, 2) := by decide +kernel
theorem dX2_kept_37 : decode cX2_kept 37 = .ok (.iload 6, 2) := by decide +kernel
theorem dX2_kept_39 : decode cX2_kept 39 = .ok (.iconst (-1), 1) := by decide +kernel
theorem dX2_kept_40 : decode cX2_kept 40 = .ok (.if_icmp .ne 13, 3) := by decide +kernel
theorem dX2_kept_43 : decode cX2_kept 43 = .ok (.new 113, 3) := by decide +kernel
theorem dX2_kept_46 : decode cX2_kept 46 = .ok (.dup, 1) := by decide +kernel
theorem dX2_kept_47 : decode cX2_kept 47 = .ok (.ldc 130, 2) := by decide +kernel
theorem dX2_kept_49 : decode cX2_kept 49 = .ok (.invokespecial 117, 3) := by decide +kernel
theorem dX2_kept_52 : decode cX2_kept 52 = .ok (.athrow, 1) := by decide +kernel
theorem dX2_kept_53 : decode cX2_kept 53 = .ok (.aload_n 0, 1) := by decide +kernel
theorem dX2_kept_54 : decode cX2_kept 54 = .ok (.getfield 10, 3) := by decide +kernel
theorem dX2_kept_57 : decode cX2_kept 57 = .ok (.iload 6, 2) := by decide +kernel
theorem dX2_kept_59 : decode cX2_kept 59 = .ok (.invokevirtual 102, 3) := by decide +kernel
theorem dX2_kept_62 : decode cX2_kept 62 = .ok (.ireturn, 1) := by decide +kernel
theorem dX2_commit_0 : decode cX2_commit 0 = .ok (.aload_n 0, 1) := by decide +kernel
theorem dX2_commit_1 : decode cX2_commit 1 = .ok (.getfield 10, 3) := by decide +kernel
theorem dX2_commit_4 : decode cX2_commit 4 = .ok (.aload_n 0, 1) := by decide +kernel
theorem dX2_commit_5 : decode cX2_commit 5 = .ok (.getfield 16, 3) := by decide +kernel
theorem dX2_commit_8 : decode cX2_commit 8 = .ok (.invokevirtual 132, 3) := by decide +kernel
theorem dX2_commit_11 : decode cX2_commit 11 = .ok (.aload_n 0, 1) := by decide +kernel
theorem dX2_commit_12 : decode cX2_commit 12 = .ok (.getfield 16, 3) := by decide +kernel
theorem dX2_commit_15 : decode cX2_commit 15 = .ok (.aload_n 0, 1) := by decide +kernel
theorem dX2_commit_16 : decode cX2_commit 16 = .ok (.getfield 10, 3) := by decide +kernel
theorem dX2_commit_19 : decode cX2_commit 19 = .ok (.invokevirtual 132, 3) := by decide +kernel
theorem dX2_commit_22 : decode cX2_commit 22 = .ok (.iadd, 1) := by decide +kernel
theorem dX2_commit_23 : decode cX2_commit 23 = .ok (.istore_n 1, 1) := by decide +kernel
theorem dX2_commit_24 : decode cX2_commit 24 = .ok (.iload_n 1, 1) := by decide +kernel
theorem dX2_commit_25 : decode cX2_commit 25 = .ok (.ifCond .ne 5, 3) := by decide +kernel
theorem dX2_commit_28 : decode cX2_commit 28 = .ok (.iconst 0, 1) := by decide +kernel
theorem dX2_commit_29 : decode cX2_commit 29 = .ok (.ireturn, 1) := by decide +kernel
theorem dX2_commit_30 : decode cX2_commit 30 = .ok (.aload_n 0, 1) := by decide +kernel
theorem dX2_commit_31 : decode cX2_commit 31 = .ok (.getfield 10, 3) := by decide +kernel
theorem dX2_commit_34 : decode cX2_commit 34 = .ok (.aload_n 0, 1) := by decide +kernel
theorem dX2_commit_35 : decode cX2_commit 35 = .ok (.getfield 16, 3) := by decide +kernel
theorem dX2_commit_38 : decode cX2_commit 38 = .ok (.invokevirtual 136, 3) := by decide +kernel
theorem dX2_commit_41 : decode cX2_commit 41 = .ok (.istore_n 2, 1) := by decide +kernel
theorem dX2_commit_42 : decode cX2_commit 42 = .ok (.iload_n 2, 1) := by decide +kernel
theorem dX2_commit_43 : decode cX2_commit 43 = .ok (.aload_n 0, 1) := by decide +kernel
theorem dX2_commit_44 : decode cX2_commit 44 = .ok (.invokevirtual 139, 3) := by decide +kernel
theorem dX2_commit_47 : decode cX2_commit 47 = .ok (.if_icmp .le 13, 3) := by decide +kernel
theorem dX2_commit_50 : decode cX2_commit 50 = .ok (.new 38, 3) := by decide +kernel
theorem dX2_commit_53 : decode cX2_commit 53 = .ok (.dup, 1) := by decide +kernel
theorem dX2_commit_54 : decode cX2_commit 54 = .ok (.ldc 142, 2) := by decide +kernel
theorem dX2_commit_56 : decode cX2_commit 56 = .ok (.invokespecial 42, 3) := by decide +kernel
theorem dX2_commit_59 : decode cX2_commit 59 = .ok (.athrow, 1) := by decide +kernel
theorem dX2_commit_60 : decode cX2_commit 60 = .ok (.iload_n 2, 1) := by decide +kernel
theorem dX2_commit_61 : decode cX2_commit 61 = .ok (.iconst 1, 1) := by decide +kernel
theorem dX2_commit_62 : decode cX2_commit 62 = .ok (.iadd, 1) := by decide +kernel
theorem dX2_commit_63 : decode cX2_commit 63 = .ok (.istore_n 3, 1) := by decide +kernel
theorem dX2_commit_64 : decode cX2_commit 64 = .ok (.aload_n 0, 1) := by decide +kernel
theorem dX2_commit_65 : decode cX2_commit 65 = .ok (.getfield 26, 3) := by decide +kernel
theorem dX2_commit_68 : decode cX2_commit 68 = .ok (.iconst (-1), 1) := by decide +kernel
theorem dX2_commit_69 : decode cX2_commit 69 = .ok (.if_icmp .eq 25, 3) := by decide +kernel
theorem dX2_commit_72 : decode cX2_commit 72 = .ok (.iload_n 3, 1) := by decide +kernel
theorem dX2_commit_73 : decode cX2_commit 73 = .ok (.aload_n 0, 1) := by decide +kernel
theorem dX2_commit_74 : decode cX2_commit 74 = .ok (.getfield 26, 3) := by decide +kernel
theorem dX2_commit_77 : decode cX2_commit 77 = .ok (.if_icmp .le 17, 3) := by decide +kernel
theorem dX2_commit_80 : decode cX2_commit 80 = .ok (.aload_n 0, 1) := by decide +kernel
theorem dX2_commit_81 : decode cX2_commit 81 = .ok (.invokevirtual 144, 3) := by decide +kernel
theorem dX2_commit_84 : decode cX2_commit 84 = .ok (.new 147, 3) := by decide +kernel
theorem dX2_commit_87 : decode cX2_commit 87 = .ok (.dup, 1) := by decide +kernel
theorem dX2_commit_88 : decode cX2_commit 88 = .ok (.ldc 149, 2) := by decide +kernel
theorem dX2_commit_90 : decode cX2_commit 90 = .ok (.invokespecial 151, 3) := by decide +kernel
theorem dX2_commit_93 : decode cX2_commit 93 = .ok (.athrow, 1) := by decide +kernel
theorem dX2_commit_94 : decode cX2_commit 94 = .ok (.aload_n 0, 1) := by decide +kernel
theorem dX2_commit_95 : decode cX2_commit 95 = .ok (.iload_n 3, 1) := by decide +kernel
theorem dX2_commit_96 : decode cX2_commit 96 = .ok (.invokevirtual 152, 3) := by decide +kernel
theorem dX2_commit_99 : decode cX2_commit 99 = .ok (.aload_n 0, 1) := by decide +kernel
theorem dX2_commit_100 : decode cX2_commit 100 = .ok (.getfield 16, 3) := by decide +kernel
theorem dX2_commit_103 : decode cX2_commit 103 = .ok (.aload_n 0, 1) := by decide +kernel
theorem dX2_commit_104 : decode cX2_commit 104 = .ok (.getfield 10, 3) := by decide +kernel
theorem dX2_commit_107 : decode cX2_commit 107 = .ok (.invokevirtual 155, 3) := by decide +kernel
theorem dX2_commit_110 : decode cX2_commit 110 = .ok (.iload_n 3, 1) := by decide +kernel
theorem dX2_commit_111 : decode cX2_commit 111 = .ok (.ireturn, 1) := by decide +kernel
theorem dX2_charge_0 : decode cX2_charge 0 = .ok (.iload_n 1, 1) := by decide +kernel
theorem dX2_charge_1 : decode cX2_charge 1 = .ok (.ifCond .lt 9, 3) := by decide +kernel
theorem dX2_charge_4 : decode cX2_charge 4 = .ok (.iload_n 1, 1) := by decide +kernel
theorem dX2_charge_5 : decode cX2_charge 5 = .ok (.bipush 99, 2) := by decide +kernel
theorem dX2_charge_7 : decode cX2_charge 7 = .ok (.if_icmp .le 13, 3) := by decide +kernel
theorem dX2_charge_10 : decode cX2_charge 10 = .ok (.new 72, 3) := by decide +kernel
theorem dX2_charge_13 : decode cX2_charge 13 = .ok (.dup, 1) := by decide +kernel
theorem dX2_charge_14 : decode cX2_charge 14 = .ok (.ldc 159, 2) := by decide +kernel
theorem dX2_charge_16 : decode cX2_charge 16 = .ok (.invokespecial 76, 3) := by decide +kernel
theorem dX2_charge_19 : decode cX2_charge 19 = .ok (.athrow, 1) := by decide +kernel
theorem dX2_charge_20 : decode cX2_charge 20 = .ok (.aload_n 0, 1) := by decide +kernel
theorem dX2_charge_21 : decode cX2_charge 21 = .ok (.iload_n 1, 1) := by decide +kernel
theorem dX2_charge_22 : decode cX2_charge 22 = .ok (.putfield 26, 3) := by decide +kernel
theorem dX2_charge_25 : decode cX2_charge 25 = .ok (.return_, 1) := by decide +kernel
theorem dX2_open_0 : decode cX2_open 0 = .ok (.aload_n 0, 1) := by decide +kernel
theorem dX2_open_1 : decode cX2_open 1 = .ok (.invokevirtual 161, 3) := by decide +kernel
theorem dX2_open_4 : decode cX2_open 4 = .ok (.aload_n 0, 1) := by decide +kernel
theorem dX2_open_5 : decode cX2_open 5 = .ok (.getfield 10, 3) := by decide +kernel
theorem dX2_open_8 : decode cX2_open 8 = .ok (.invokevirtual 45, 3) := by decide +kernel
theorem dX2_open_11 : decode cX2_open 11 = .ok (.ireturn, 1) := by decide +kernel
theorem dX2_state_0 : decode cX2_state 0 = .ok (.iload_n 1, 1) := by decide +kernel
theorem dX2_state_1 : decode cX2_state 1 = .ok (.tableswitch 81 0 5 #[39, 47, 55, 60, 65, 73], 39) := by decide +kernel
theorem dX2_state_40 : decode cX2_state 40 = .ok (.aload_n 0, 1) := by decide +kernel
theorem dX2_state_41 : decode cX2_state 41 = .ok (.getfield 10, 3) := by decide +kernel
theorem dX2_state_44 : decode cX2_state 44 = .ok (.invokevirtual 45, 3) := by decide +kernel
theorem dX2_state_47 : decode cX2_state 47 = .ok (.ireturn, 1) := by decide +kernel
theorem dX2_state_48 : decode cX2_state 48 = .ok (.aload_n 0, 1) := by decide +kernel
theorem dX2_state_49 : decode cX2_state 49 = .ok (.getfield 10, 3) := by decide +kernel
theorem dX2_state_52 : decode cX2_state 52 = .ok (.invokevirtual 164, 3) := by decide +kernel
theorem dX2_state_55 : decode cX2_state 55 = .ok (.ireturn, 1) := by decide +kernel
theorem dX2_state_56 : decode cX2_state 56 = .ok (.aload_n 0, 1) := by decide +kernel
theorem dX2_state_57 : decode cX2_state 57 = .ok (.invokevirtual 139, 3) := by decide +kernel
theorem dX2_state_60 : decode cX2_state 60 = .ok (.ireturn, 1) := by decide +kernel
theorem dX2_state_61 : decode cX2_state 61 = .ok (.aload_n 0, 1) := by decide +kernel
theorem dX2_state_62 : decode cX2_state 62 = .ok (.getfield 167, 3) := by decide +kernel
theorem dX2_state_65 : decode cX2_state 65 = .ok (.ireturn, 1) := by decide +kernel
theorem dX2_state_66 : decode cX2_state 66 = .ok (.aload_n 0, 1) := by decide +kernel
theorem dX2_state_67 : decode cX2_state 67 = .ok (.getfield 22, 3) := by decide +kernel
theorem dX2_state_70 : decode cX2_state 70 = .ok (.invokevirtual 107, 3) := by decide +kernel
theorem dX2_state_73 : decode cX2_state 73 = .ok (.ireturn, 1) := by decide +kernel
theorem dX2_state_74 : decode cX2_state 74 = .ok (.aload_n 0, 1) := by decide +kernel
theorem dX2_state_75 : decode cX2_state 75 = .ok (.getfield 16, 3) := by decide +kernel
theorem dX2_state_78 : decode cX2_state 78 = .ok (.invokevirtual 45, 3) := by decide +kernel
theorem dX2_state_81 : decode cX2_state 81 = .ok (.ireturn, 1) := by decide +kernel
theorem dX2_state_82 : decode cX2_state 82 = .ok (.iconst (-1), 1) := by decide +kernel
theorem dX2_state_83 : decode cX2_state 83 = .ok (.ireturn, 1) := by decide +kernel
theorem dX2_rank_0 : decode cX2_rank 0 = .ok (.iload_n 1, 1) := by decide +kernel
theorem dX2_rank_1 : decode cX2_rank 1 = .ok (.invokestatic 170, 3) := by decide +kernel
theorem dX2_rank_4 : decode cX2_rank 4 = .ok (.lreturn, 1) := by decide +kernel
theorem dX2_rankOf_0 : decode cX2_rankOf 0 = .ok (.iload_n 0, 1) := by decide +kernel
theorem dX2_rankOf_1 : decode cX2_rankOf 1 = .ok (.istore_n 1, 1) := by decide +kernel
theorem dX2_rankOf_2 : decode cX2_rankOf 2 = .ok (.iconst 0, 1) := by decide +kernel
theorem dX2_rankOf_3 : decode cX2_rankOf 3 = .ok (.istore_n 2, 1) := by decide +kernel
theorem dX2_rankOf_4 : decode cX2_rankOf 4 = .ok (.iload_n 2, 1) := by decide +kernel
theorem dX2_rankOf_5 : decode cX2_rankOf 5 = .ok (.iconst 3, 1) := by decide +kernel
theorem dX2_rankOf_6 : decode cX2_rankOf 6 = .ok (.if_icmp .ge 21, 3) := by decide +kernel
theorem dX2_rankOf_9 : decode cX2_rankOf 9 = .ok (.iload_n 1, 1) := by decide +kernel
theorem dX2_rankOf_10 : decode cX2_rankOf 10 = .ok (.ldc 174, 2) := by decide +kernel
theorem dX2_rankOf_12 : decode cX2_rankOf 12 = .ok (.imul, 1) := by decide +kernel
theorem dX2_rankOf_13 : decode cX2_rankOf 13 = .ok (.istore_n 1, 1) := by decide +kernel
theorem dX2_rankOf_14 : decode cX2_rankOf 14 = .ok (.iload_n 1, 1) := by decide +kernel
theorem dX2_rankOf_15 : decode cX2_rankOf 15 = .ok (.iload_n 1, 1) := by decide +kernel
theorem dX2_rankOf_16 : decode cX2_rankOf 16 = .ok (.bipush 16, 2) := by decide +kernel
theorem dX2_rankOf_18 : decode cX2_rankOf 18 = .ok (.iushr, 1) := by decide +kernel
theorem dX2_rankOf_19 : decode cX2_rankOf 19 = .ok (.ixor, 1) := by decide +kernel
theorem dX2_rankOf_20 : decode cX2_rankOf 20 = .ok (.istore_n 1, 1) := by decide +kernel
theorem dX2_rankOf_21 : decode cX2_rankOf 21 = .ok (.iinc 2 1, 3) := by decide +kernel
theorem dX2_rankOf_24 : decode cX2_rankOf 24 = .ok (.goto (-20), 3) := by decide +kernel
theorem dX2_rankOf_27 : decode cX2_rankOf 27 = .ok (.iload_n 1, 1) := by decide +kernel
theorem dX2_rankOf_28 : decode cX2_rankOf 28 = .ok (.i2l, 1) := by decide +kernel
theorem dX2_rankOf_29 : decode cX2_rankOf 29 = .ok (.ldc2_w 175, 3) := by decide +kernel
theorem dX2_rankOf_32 : decode cX2_rankOf 32 = .ok (.land, 1) := by decide +kernel
theorem dX2_rankOf_33 : decode cX2_rankOf 33 = .ok (.lreturn, 1) := by decide +kernel
theorem dX2_requirePlace_0 : decode cX2_requirePlace 0 = .ok (.iload_n 0, 1) := by decide +kernel
theorem dX2_requirePlace_1 : decode cX2_requirePlace 1 = .ok (.invokestatic 177, 3) := by decide +kernel
theorem dX2_requirePlace_4 : decode cX2_requirePlace 4 = .ok (.ifCond .eq 17, 3) := by decide +kernel
theorem dX2_requirePlace_7 : decode cX2_requirePlace 7 = .ok (.iload_n 1, 1) := by decide +kernel
theorem dX2_requirePlace_8 : decode cX2_requirePlace 8 = .ok (.invokestatic 177, 3) := by decide +kernel
theorem dX2_requirePlace_11 : decode cX2_requirePlace 11 = .ok (.ifCond .eq 10, 3) := by decide +kernel
theorem dX2_requirePlace_14 : decode cX2_requirePlace 14 = .ok (.iload_n 2, 1) := by decide +kernel
theorem dX2_requirePlace_15 : decode cX2_requirePlace 15 = .ok (.invokestatic 177, 3) := by decide +kernel
theorem dX2_requirePlace_18 : decode cX2_requirePlace 18 = .ok (.ifCond .ne 13, 3) := by decide +kernel
theorem dX2_requirePlace_21 : decode cX2_requirePlace 21 = .ok (.new 72, 3) := by decide +kernel
theorem dX2_requirePlace_24 : decode cX2_requirePlace 24 = .ok (.dup, 1) := by decide +kernel
theorem dX2_requirePlace_25 : decode cX2_requirePlace 25 = .ok (.ldc 180, 2) := by decide +kernel
theorem dX2_requirePlace_27 : decode cX2_requirePlace 27 = .ok (.invokespecial 76, 3) := by decide +kernel
theorem dX2_requirePlace_30 : decode cX2_requirePlace 30 = .ok (.athrow, 1) := by decide +kernel
theorem dX2_requirePlace_31 : decode cX2_requirePlace 31 = .ok (.return_, 1) := by decide +kernel
theorem dX2_isCoordinate_0 : decode cX2_isCoordinate 0 = .ok (.iload_n 0, 1) := by decide +kernel
theorem dX2_isCoordinate_1 : decode cX2_isCoordinate 1 = .ok (.ifCond .lt 13, 3) := by decide +kernel
theorem dX2_isCoordinate_4 : decode cX2_isCoordinate 4 = .ok (.iload_n 0, 1) := by decide +kernel
theorem dX2_isCoordinate_5 : decode cX2_isCoordinate 5 = .ok (.bipush 16, 2) := by decide +kernel
theorem dX2_isCoordinate_7 : decode cX2_isCoordinate 7 = .ok (.if_icmp .ge 7, 3) := by decide +kernel
theorem dX2_isCoordinate_10 : decode cX2_isCoordinate 10 = .ok (.iconst 1, 1) := by decide +kernel
theorem dX2_isCoordinate_11 : decode cX2_isCoordinate 11 = .ok (.goto 4, 3) := by decide +kernel
theorem dX2_isCoordinate_14 : decode cX2_isCoordinate 14 = .ok (.iconst 0, 1) := by decide +kernel
theorem dX2_isCoordinate_15 : decode cX2_isCoordinate 15 = .ok (.ireturn, 1) := by decide +kernel
theorem dX2_isDepth_0 : decode cX2_isDepth 0 = .ok (.iload_n 0, 1) := by decide +kernel
theorem dX2_isDepth_1 : decode cX2_isDepth 1 = .ok (.ifCond .lt 12, 3) := by decide +kernel
theorem dX2_isDepth_4 : decode cX2_isDepth 4 = .ok (.iload_n 0, 1) := by decide +kernel
theorem dX2_isDepth_5 : decode cX2_isDepth 5 = .ok (.iconst 4, 1) := by decide +kernel
theorem dX2_isDepth_6 : decode cX2_isDepth 6 = .ok (.if_icmp .gt 7, 3) := by decide +kernel
theorem dX2_isDepth_9 : decode cX2_isDepth 9 = .ok (.iconst 1, 1) := by decide +kernel
theorem dX2_isDepth_10 : decode cX2_isDepth 10 = .ok (.goto 4, 3) := by decide +kernel
theorem dX2_isDepth_13 : decode cX2_isDepth 13 = .ok (.iconst 0, 1) := by decide +kernel
theorem dX2_isDepth_14 : decode cX2_isDepth 14 = .ok (.ireturn, 1) := by decide +kernel
theorem dX2_isCube_0 : decode cX2_isCube 0 = .ok (.iload_n 0, 1) := by decide +kernel
theorem dX2_isCube_1 : decode cX2_isCube 1 = .ok (.invokestatic 89, 3) := by decide +kernel
theorem dX2_isCube_4 : decode cX2_isCube 4 = .ok (.ifCond .eq 31, 3) := by decide +kernel
theorem dX2_isCube_7 : decode cX2_isCube 7 = .ok (.iload_n 0, 1) := by decide +kernel
theorem dX2_isCube_8 : decode cX2_isCube 8 = .ok (.iload_n 1, 1) := by decide +kernel
theorem dX2_isCube_9 : decode cX2_isCube 9 = .ok (.invokestatic 182, 3) := by decide +kernel
theorem dX2_isCube_12 : decode cX2_isCube 12 = .ok (.ifCond .eq 23, 3) := by decide +kernel
theorem dX2_isCube_15 : decode cX2_isCube 15 = .ok (.iload_n 0, 1) := by decide +kernel
theorem dX2_isCube_16 : decode cX2_isCube 16 = .ok (.iload_n 2, 1) := by decide +kernel
theorem dX2_isCube_17 : decode cX2_isCube 17 = .ok (.invokestatic 182, 3) := by decide +kernel
theorem dX2_isCube_20 : decode cX2_isCube 20 = .ok (.ifCond .eq 15, 3) := by decide +kernel
theorem dX2_isCube_23 : decode cX2_isCube 23 = .ok (.iload_n 0, 1) := by decide +kernel
theorem dX2_isCube_24 : decode cX2_isCube 24 = .ok (.iload_n 3, 1) := by decide +kernel
theorem dX2_isCube_25 : decode cX2_isCube 25 = .ok (.invokestatic 182, 3) := by decide +kernel
theorem dX2_isCube_28 : decode cX2_isCube 28 = .ok (.ifCond .eq 7, 3) := by decide +kernel
theorem dX2_isCube_31 : decode cX2_isCube 31 = .ok (.iconst 1, 1) := by decide +kernel
theorem dX2_isCube_32 : decode cX2_isCube 32 = .ok (.goto 4, 3) := by decide +kernel
theorem dX2_isCube_35 : decode cX2_isCube 35 = .ok (.iconst 0, 1) := by decide +kernel
theorem dX2_isCube_36 : decode cX2_isCube 36 = .ok (.ireturn, 1) := by decide +kernel
theorem dX2_isCubeIndex_0 : decode cX2_isCubeIndex 0 = .ok (.iload_n 1, 1) := by decide +kernel
theorem dX2_isCubeIndex_1 : decode cX2_isCubeIndex 1 = .ok (.ifCond .lt 14, 3) := by decide +kernel
theorem dX2_isCubeIndex_4 : decode cX2_isCubeIndex 4 = .ok (.iload_n 1, 1) := by decide +kernel
theorem dX2_isCubeIndex_5 : decode cX2_isCubeIndex 5 = .ok (.iconst 1, 1) := by decide +kernel
theorem dX2_isCubeIndex_6 : decode cX2_isCubeIndex 6 = .ok (.iload_n 0, 1) := by decide +kernel
theorem dX2_isCubeIndex_7 : decode cX2_isCubeIndex 7 = .ok (.ishl, 1) := by decide +kernel
theorem dX2_isCubeIndex_8 : decode cX2_isCubeIndex 8 = .ok (.if_icmp .ge 7, 3) := by decide +kernel
theorem dX2_isCubeIndex_11 : decode cX2_isCubeIndex 11 = .ok (.iconst 1, 1) := by decide +kernel
theorem dX2_isCubeIndex_12 : decode cX2_isCubeIndex 12 = .ok (.goto 4, 3) := by decide +kernel
theorem dX2_isCubeIndex_15 : decode cX2_isCubeIndex 15 = .ok (.iconst 0, 1) := by decide +kernel
theorem dX2_isCubeIndex_16 : decode cX2_isCubeIndex 16 = .ok (.ireturn, 1) := by decide +kernel
theorem dX2_cubeIndex_0 : decode cX2_cubeIndex 0 = .ok (.iload_n 1, 1) := by decide +kernel
theorem dX2_cubeIndex_1 : decode cX2_cubeIndex 1 = .ok (.iconst 4, 1) := by decide +kernel
theorem dX2_cubeIndex_2 : decode cX2_cubeIndex 2 = .ok (.iload_n 0, 1) := by decide +kernel
theorem dX2_cubeIndex_3 : decode cX2_cubeIndex 3 = .ok (.isub, 1) := by decide +kernel
theorem dX2_cubeIndex_4 : decode cX2_cubeIndex 4 = .ok (.ishr, 1) := by decide +kernel
theorem dX2_cubeIndex_5 : decode cX2_cubeIndex 5 = .ok (.ireturn, 1) := by decide +kernel
theorem dX2_isBetween_0 : decode cX2_isBetween 0 = .ok (.iload_n 0, 1) := by decide +kernel
theorem dX2_isBetween_1 : decode cX2_isBetween 1 = .ok (.iload_n 2, 1) := by decide +kernel
theorem dX2_isBetween_2 : decode cX2_isBetween 2 = .ok (.invokestatic 186, 3) := by decide +kernel
theorem dX2_isBetween_5 : decode cX2_isBetween 5 = .ok (.iload_n 1, 1) := by decide +kernel
theorem dX2_isBetween_6 : decode cX2_isBetween 6 = .ok (.if_icmp .gt 16, 3) := by decide +kernel
theorem dX2_isBetween_9 : decode cX2_isBetween 9 = .ok (.iload_n 1, 1) := by decide +kernel
theorem dX2_isBetween_10 : decode cX2_isBetween 10 = .ok (.iload_n 0, 1) := by decide +kernel
theorem dX2_isBetween_11 : decode cX2_isBetween 11 = .ok (.iload_n 2, 1) := by decide +kernel
theorem dX2_isBetween_12 : decode cX2_isBetween 12 = .ok (.invokestatic 192, 3) := by decide +kernel
theorem dX2_isBetween_15 : decode cX2_isBetween 15 = .ok (.if_icmp .gt 7, 3) := by decide +kernel
theorem dX2_isBetween_18 : decode cX2_isBetween 18 = .ok (.iconst 1, 1) := by decide +kernel
theorem dX2_isBetween_19 : decode cX2_isBetween 19 = .ok (.goto 4, 3) := by decide +kernel
theorem dX2_isBetween_22 : decode cX2_isBetween 22 = .ok (.iconst 0, 1) := by decide +kernel
theorem dX2_isBetween_23 : decode cX2_isBetween 23 = .ok (.ireturn, 1) := by decide +kernel
theorem dX2_isInBox_0 : decode cX2_isInBox 0 = .ok (.aload_n 0, 1) := by decide +kernel
theorem dX2_isInBox_1 : decode cX2_isInBox 1 = .ok (.getfield 195, 3) := by decide +kernel
theorem dX2_isInBox_4 : decode cX2_isInBox 4 = .ok (.aload_n 0, 1) := by decide +kernel
theorem dX2_isInBox_5 : decode cX2_isInBox 5 = .ok (.getfield 10, 3) := by decide +kernel
theorem dX2_isInBox_8 : decode cX2_isInBox 8 = .ok (.iload_n 1, 1) := by decide +kernel
theorem dX2_isInBox_9 : decode cX2_isInBox 9 = .ok (.invokevirtual 77, 3) := by decide +kernel
theorem dX2_isInBox_12 : decode cX2_isInBox 12 = .ok (.iload_n 2, 1) := by decide +kernel
theorem dX2_isInBox_13 : decode cX2_isInBox 13 = .ok (.invokestatic 198, 3) := by decide +kernel
theorem dX2_isInBox_16 : decode cX2_isInBox 16 = .ok (.ifCond .eq 46, 3) := by decide +kernel
theorem dX2_isInBox_19 : decode cX2_isInBox 19 = .ok (.aload_n 0, 1) := by decide +kernel
theorem dX2_isInBox_20 : decode cX2_isInBox 20 = .ok (.getfield 202, 3) := by decide +kernel
theorem dX2_isInBox_23 : decode cX2_isInBox 23 = .ok (.aload_n 0, 1) := by decide +kernel
theorem dX2_isInBox_24 : decode cX2_isInBox 24 = .ok (.getfield 10, 3) := by decide +kernel
theorem dX2_isInBox_27 : decode cX2_isInBox 27 = .ok (.iload_n 1, 1) := by decide +kernel
theorem dX2_isInBox_28 : decode cX2_isInBox 28 = .ok (.invokevirtual 80, 3) := by decide +kernel
theorem dX2_isInBox_31 : decode cX2_isInBox 31 = .ok (.iload_n 3, 1) := by decide +kernel
theorem dX2_isInBox_32 : decode cX2_isInBox 32 = .ok (.invokestatic 198, 3) := by decide +kernel
theorem dX2_isInBox_35 : decode cX2_isInBox 35 = .ok (.ifCond .eq 27, 3) := by decide +kernel
theorem dX2_isInBox_38 : decode cX2_isInBox 38 = .ok (.aload_n 0, 1) := by decide +kernel
theorem dX2_isInBox_39 : decode cX2_isInBox 39 = .ok (.getfield 205, 3) := by decide +kernel
theorem dX2_isInBox_42 : decode cX2_isInBox 42 = .ok (.aload_n 0, 1) := by decide +kernel
theorem dX2_isInBox_43 : decode cX2_isInBox 43 = .ok (.getfield 10, 3) := by decide +kernel
theorem dX2_isInBox_46 : decode cX2_isInBox 46 = .ok (.iload_n 1, 1) := by decide +kernel
theorem dX2_isInBox_47 : decode cX2_isInBox 47 = .ok (.invokevirtual 83, 3) := by decide +kernel
theorem dX2_isInBox_50 : decode cX2_isInBox 50 = .ok (.iload 4, 2) := by decide +kernel
theorem dX2_isInBox_52 : decode cX2_isInBox 52 = .ok (.invokestatic 198, 3) := by decide +kernel
theorem dX2_isInBox_55 : decode cX2_isInBox 55 = .ok (.ifCond .eq 7, 3) := by decide +kernel
theorem dX2_isInBox_58 : decode cX2_isInBox 58 = .ok (.iconst 1, 1) := by decide +kernel
theorem dX2_isInBox_59 : decode cX2_isInBox 59 = .ok (.goto 4, 3) := by decide +kernel
theorem dX2_isInBox_62 : decode cX2_isInBox 62 = .ok (.iconst 0, 1) := by decide +kernel
theorem dX2_isInBox_63 : decode cX2_isInBox 63 = .ok (.ireturn, 1) := by decide +kernel
theorem dX2_findPoint_0 : decode cX2_findPoint 0 = .ok (.aload_n 0, 1) := by decide +kernel
theorem dX2_findPoint_1 : decode cX2_findPoint 1 = .ok (.getfield 10, 3) := by decide +kernel
theorem dX2_findPoint_4 : decode cX2_findPoint 4 = .ok (.iload_n 1, 1) := by decide +kernel
theorem dX2_findPoint_5 : decode cX2_findPoint 5 = .ok (.invokevirtual 34, 3) := by decide +kernel
theorem dX2_findPoint_8 : decode cX2_findPoint 8 = .ok (.istore_n 2, 1) := by decide +kernel
theorem dX2_findPoint_9 : decode cX2_findPoint 9 = .ok (.iload_n 2, 1) := by decide +kernel
theorem dX2_findPoint_10 : decode cX2_findPoint 10 = .ok (.iconst (-1), 1) := by decide +kernel
theorem dX2_findPoint_11 : decode cX2_findPoint 11 = .ok (.if_icmp .ne 13, 3) := by decide +kernel
theorem dX2_findPoint_14 : decode cX2_findPoint 14 = .ok (.new 113, 3) := by decide +kernel
theorem dX2_findPoint_17 : decode cX2_findPoint 17 = .ok (.dup, 1) := by decide +kernel
theorem dX2_findPoint_18 : decode cX2_findPoint 18 = .ok (.ldc 208, 2) := by decide +kernel
theorem dX2_findPoint_20 : decode cX2_findPoint 20 = .ok (.invokespecial 117, 3) := by decide +kernel
theorem dX2_findPoint_23 : decode cX2_findPoint 23 = .ok (.athrow, 1) := by decide +kernel
theorem dX2_findPoint_24 : decode cX2_findPoint 24 = .ok (.iload_n 2, 1) := by decide +kernel
theorem dX2_findPoint_25 : decode cX2_findPoint 25 = .ok (.ireturn, 1) := by decide +kernel
theorem dX2_setCorner_0 : decode cX2_setCorner 0 = .ok (.aload_n 0, 1) := by decide +kernel
theorem dX2_setCorner_1 : decode cX2_setCorner 1 = .ok (.iload_n 1, 1) := by decide +kernel
theorem dX2_setCorner_2 : decode cX2_setCorner 2 = .ok (.putfield 195, 3) := by decide +kernel
theorem dX2_setCorner_5 : decode cX2_setCorner 5 = .ok (.aload_n 0, 1) := by decide +kernel
theorem dX2_setCorner_6 : decode cX2_setCorner 6 = .ok (.iload_n 2, 1) := by decide +kernel
theorem dX2_setCorner_7 : decode cX2_setCorner 7 = .ok (.putfield 202, 3) := by decide +kernel
theorem dX2_setCorner_10 : decode cX2_setCorner 10 = .ok (.aload_n 0, 1) := by decide +kernel
theorem dX2_setCorner_11 : decode cX2_setCorner 11 = .ok (.iload_n 3, 1) := by decide +kernel
theorem dX2_setCorner_12 : decode cX2_setCorner 12 = .ok (.putfield 205, 3) := by decide +kernel
theorem dX2_setCorner_15 : decode cX2_setCorner 15 = .ok (.return_, 1) := by decide +kernel
theorem dX2_freePages_0 : decode cX2_freePages 0 = .ok (.bipush 64, 2) := by decide +kernel
theorem dX2_freePages_2 : decode cX2_freePages 2 = .ok (.aload_n 0, 1) := by decide +kernel
theorem dX2_freePages_3 : decode cX2_freePages 3 = .ok (.getfield 16, 3) := by decide +kernel
theorem dX2_freePages_6 : decode cX2_freePages 6 = .ok (.invokevirtual 210, 3) := by decide +kernel
theorem dX2_freePages_9 : decode cX2_freePages 9 = .ok (.isub, 1) := by decide +kernel
theorem dX2_freePages_10 : decode cX2_freePages 10 = .ok (.ireturn, 1) := by decide +kernel
theorem dX2_writePages_0 : decode cX2_writePages 0 = .ok (.aload_n 0, 1) := by decide +kernel
theorem dX2_writePages_1 : decode cX2_writePages 1 = .ok (.dup, 1) := by decide +kernel
theorem dX2_writePages_2 : decode cX2_writePages 2 = .ok (.getfield 167, 3) := by decide +kernel
theorem dX2_writePages_5 : decode cX2_writePages 5 = .ok (.iload_n 1, 1) := by decide +kernel
theorem dX2_writePages_6 : decode cX2_writePages 6 = .ok (.iadd, 1) := by decide +kernel
theorem dX2_writePages_7 : decode cX2_writePages 7 = .ok (.putfield 167, 3) := by decide +kernel
theorem dX2_writePages_10 : decode cX2_writePages 10 = .ok (.aload_n 0, 1) := by decide +kernel
theorem dX2_writePages_11 : decode cX2_writePages 11 = .ok (.getfield 26, 3) := by decide +kernel
theorem dX2_writePages_14 : decode cX2_writePages 14 = .ok (.iconst (-1), 1) := by decide +kernel
theorem dX2_writePages_15 : decode cX2_writePages 15 = .ok (.if_icmp .eq 13, 3) := by decide +kernel
theorem dX2_writePages_18 : decode cX2_writePages 18 = .ok (.aload_n 0, 1) := by decide +kernel
theorem dX2_writePages_19 : decode cX2_writePages 19 = .ok (.dup, 1) := by decide +kernel
theorem dX2_writePages_20 : decode cX2_writePages 20 = .ok (.getfield 26, 3) := by decide +kernel
theorem dX2_writePages_23 : decode cX2_writePages 23 = .ok (.iload_n 1, 1) := by decide +kernel
theorem dX2_writePages_24 : decode cX2_writePages 24 = .ok (.isub, 1) := by decide +kernel
theorem dX2_writePages_25 : decode cX2_writePages 25 = .ok (.putfield 26, 3) := by decide +kernel
theorem dX2_writePages_28 : decode cX2_writePages 28 = .ok (.return_, 1) := by decide +kernel
theorem dX2_losePower_0 : decode cX2_losePower 0 = .ok (.aload_n 0, 1) := by decide +kernel
theorem dX2_losePower_1 : decode cX2_losePower 1 = .ok (.aload_n 0, 1) := by decide +kernel
theorem dX2_losePower_2 : decode cX2_losePower 2 = .ok (.getfield 26, 3) := by decide +kernel
theorem dX2_losePower_5 : decode cX2_losePower 5 = .ok (.invokevirtual 152, 3) := by decide +kernel
theorem dX2_losePower_8 : decode cX2_losePower 8 = .ok (.aload_n 0, 1) := by decide +kernel
theorem dX2_losePower_9 : decode cX2_losePower 9 = .ok (.iconst (-1), 1) := by decide +kernel
theorem dX2_losePower_10 : decode cX2_losePower 10 = .ok (.putfield 26, 3) := by decide +kernel
theorem dX2_losePower_13 : decode cX2_losePower 13 = .ok (.aload_n 0, 1) := by decide +kernel
theorem dX2_losePower_14 : decode cX2_losePower 14 = .ok (.invokevirtual 161, 3) := by decide +kernel
theorem dX2_losePower_17 : decode cX2_losePower 17 = .ok (.return_, 1) := by decide +kernel
theorem dX2_restore_0 : decode cX2_restore 0 = .ok (.aload_n 0, 1) := by decide +kernel
theorem dX2_restore_1 : decode cX2_restore 1 = .ok (.getfield 10, 3) := by decide +kernel
theorem dX2_restore_4 : decode cX2_restore 4 = .ok (.aload_n 0, 1) := by decide +kernel
theorem dX2_restore_5 : decode cX2_restore 5 = .ok (.getfield 16, 3) := by decide +kernel
theorem dX2_restore_8 : decode cX2_restore 8 = .ok (.invokevirtual 155, 3) := by decide +kernel
theorem dX2_restore_11 : decode cX2_restore 11 = .ok (.aload_n 0, 1) := by decide +kernel
theorem dX2_restore_12 : decode cX2_restore 12 = .ok (.getfield 22, 3) := by decide +kernel
theorem dX2_restore_15 : decode cX2_restore 15 = .ok (.invokevirtual 95, 3) := by decide +kernel
theorem dX2_restore_18 : decode cX2_restore 18 = .ok (.aload_n 0, 1) := by decide +kernel
theorem dX2_restore_19 : decode cX2_restore 19 = .ok (.iconst 0, 1) := by decide +kernel
theorem dX2_restore_20 : decode cX2_restore 20 = .ok (.iconst 0, 1) := by decide +kernel
theorem dX2_restore_21 : decode cX2_restore 21 = .ok (.iconst 0, 1) := by decide +kernel
theorem dX2_restore_22 : decode cX2_restore 22 = .ok (.invokevirtual 86, 3) := by decide +kernel
theorem dX2_restore_25 : decode cX2_restore 25 = .ok (.return_, 1) := by decide +kernel
