theorem d_ContentStore_init_0 : decode prog_1_method_1_code 0 = .ok (.aload_n 0, 1) := by decide +kernel
theorem d_ContentStore_init_1 : decode prog_1_method_1_code 1 = .ok (.invokespecial 1, 3) := by decide +kernel
theorem d_ContentStore_init_4 : decode prog_1_method_1_code 4 = .ok (.aload_n 0, 1) := by decide +kernel
theorem d_ContentStore_init_5 : decode prog_1_method_1_code 5 = .ok (.new 7, 3) := by decide +kernel
theorem d_ContentStore_init_8 : decode prog_1_method_1_code 8 = .ok (.dup, 1) := by decide +kernel
theorem d_ContentStore_init_9 : decode prog_1_method_1_code 9 = .ok (.iconst 0, 1) := by decide +kernel
theorem d_ContentStore_init_10 : decode prog_1_method_1_code 10 = .ok (.sipush 2000, 3) := by decide +kernel
theorem d_ContentStore_init_13 : decode prog_1_method_1_code 13 = .ok (.iload_n 1, 1) := by decide +kernel
theorem d_ContentStore_init_14 : decode prog_1_method_1_code 14 = .ok (.invokestatic 11, 3) := by decide +kernel
theorem d_ContentStore_init_17 : decode prog_1_method_1_code 17 = .ok (.invokestatic 17, 3) := by decide +kernel
theorem d_ContentStore_init_20 : decode prog_1_method_1_code 20 = .ok (.invokespecial 20, 3) := by decide +kernel
theorem d_ContentStore_init_23 : decode prog_1_method_1_code 23 = .ok (.putfield 23, 3) := by decide +kernel
theorem d_ContentStore_init_26 : decode prog_1_method_1_code 26 = .ok (.aload_n 0, 1) := by decide +kernel
theorem d_ContentStore_init_27 : decode prog_1_method_1_code 27 = .ok (.bipush 60, 2) := by decide +kernel
theorem d_ContentStore_init_29 : decode prog_1_method_1_code 29 = .ok (.anewarray 27, 3) := by decide +kernel
theorem d_ContentStore_init_32 : decode prog_1_method_1_code 32 = .ok (.putfield 29, 3) := by decide +kernel
theorem d_ContentStore_init_35 : decode prog_1_method_1_code 35 = .ok (.aload_n 0, 1) := by decide +kernel
theorem d_ContentStore_init_36 : decode prog_1_method_1_code 36 = .ok (.bipush 60, 2) := by decide +kernel
theorem d_ContentStore_init_38 : decode prog_1_method_1_code 38 = .ok (.anewarray 33, 3) := by decide +kernel
theorem d_ContentStore_init_41 : decode prog_1_method_1_code 41 = .ok (.putfield 35, 3) := by decide +kernel
theorem d_ContentStore_init_44 : decode prog_1_method_1_code 44 = .ok (.aload_n 0, 1) := by decide +kernel
theorem d_ContentStore_init_45 : decode prog_1_method_1_code 45 = .ok (.bipush 20, 2) := by decide +kernel
theorem d_ContentStore_init_47 : decode prog_1_method_1_code 47 = .ok (.newarray .int, 2) := by decide +kernel
theorem d_ContentStore_init_49 : decode prog_1_method_1_code 49 = .ok (.putfield 39, 3) := by decide +kernel
theorem d_ContentStore_init_52 : decode prog_1_method_1_code 52 = .ok (.iconst 0, 1) := by decide +kernel
theorem d_ContentStore_init_53 : decode prog_1_method_1_code 53 = .ok (.istore_n 2, 1) := by decide +kernel
theorem d_ContentStore_init_54 : decode prog_1_method_1_code 54 = .ok (.iload_n 2, 1) := by decide +kernel
theorem d_ContentStore_init_55 : decode prog_1_method_1_code 55 = .ok (.aload_n 0, 1) := by decide +kernel
theorem d_ContentStore_init_56 : decode prog_1_method_1_code 56 = .ok (.getfield 39, 3) := by decide +kernel
theorem d_ContentStore_init_59 : decode prog_1_method_1_code 59 = .ok (.arraylength, 1) := by decide +kernel
theorem d_ContentStore_init_60 : decode prog_1_method_1_code 60 = .ok (.if_icmp .ge 16, 3) := by decide +kernel
theorem d_ContentStore_init_63 : decode prog_1_method_1_code 63 = .ok (.aload_n 0, 1) := by decide +kernel
theorem d_ContentStore_init_64 : decode prog_1_method_1_code 64 = .ok (.getfield 39, 3) := by decide +kernel
theorem d_ContentStore_init_67 : decode prog_1_method_1_code 67 = .ok (.iload_n 2, 1) := by decide +kernel
theorem d_ContentStore_init_68 : decode prog_1_method_1_code 68 = .ok (.iconst (-1), 1) := by decide +kernel
theorem d_ContentStore_init_69 : decode prog_1_method_1_code 69 = .ok (.iastore, 1) := by decide +kernel
theorem d_ContentStore_init_70 : decode prog_1_method_1_code 70 = .ok (.iinc 2 1, 3) := by decide +kernel
theorem d_ContentStore_init_73 : decode prog_1_method_1_code 73 = .ok (.goto (-19), 3) := by decide +kernel
theorem d_ContentStore_init_76 : decode prog_1_method_1_code 76 = .ok (.return_, 1) := by decide +kernel
theorem d_Math_min_0 : decode prog_11_method_69_code 0 = .ok (.iload_n 0, 1) := by decide +kernel
theorem d_Math_min_1 : decode prog_11_method_69_code 1 = .ok (.iload_n 1, 1) := by decide +kernel
theorem d_Math_min_2 : decode prog_11_method_69_code 2 = .ok (.if_icmp .gt 7, 3) := by decide +kernel
theorem d_Math_min_5 : decode prog_11_method_69_code 5 = .ok (.iload_n 0, 1) := by decide +kernel
theorem d_Math_min_6 : decode prog_11_method_69_code 6 = .ok (.goto 4, 3) := by decide +kernel
theorem d_Math_min_9 : decode prog_11_method_69_code 9 = .ok (.iload_n 1, 1) := by decide +kernel
theorem d_Math_min_10 : decode prog_11_method_69_code 10 = .ok (.ireturn, 1) := by decide +kernel
theorem d_Math_max_0 : decode prog_11_method_65_code 0 = .ok (.iload_n 0, 1) := by decide +kernel
theorem d_Math_max_1 : decode prog_11_method_65_code 1 = .ok (.iload_n 1, 1) := by decide +kernel
theorem d_Math_max_2 : decode prog_11_method_65_code 2 = .ok (.if_icmp .lt 7, 3) := by decide +kernel
theorem d_Math_max_5 : decode prog_11_method_65_code 5 = .ok (.iload_n 0, 1) := by decide +kernel
theorem d_Math_max_6 : decode prog_11_method_65_code 6 = .ok (.goto 4, 3) := by decide +kernel
theorem d_Math_max_9 : decode prog_11_method_65_code 9 = .ok (.iload_n 1, 1) := by decide +kernel
theorem d_Math_max_10 : decode prog_11_method_65_code 10 = .ok (.ireturn, 1) := by decide +kernel
theorem d_Shelf_init_0 : decode prog_5_method_1_code 0 = .ok (.aload_n 0, 1) := by decide +kernel
theorem d_Shelf_init_1 : decode prog_5_method_1_code 1 = .ok (.invokespecial 3, 3) := by decide +kernel
theorem d_Shelf_init_4 : decode prog_5_method_1_code 4 = .ok (.aload_n 0, 1) := by decide +kernel
theorem d_Shelf_init_5 : decode prog_5_method_1_code 5 = .ok (.iload_n 1, 1) := by decide +kernel
theorem d_Shelf_init_6 : decode prog_5_method_1_code 6 = .ok (.putfield 9, 3) := by decide +kernel
theorem d_Shelf_init_9 : decode prog_5_method_1_code 9 = .ok (.aload_n 0, 1) := by decide +kernel
theorem d_Shelf_init_10 : decode prog_5_method_1_code 10 = .ok (.new 15, 3) := by decide +kernel
theorem d_Shelf_init_13 : decode prog_5_method_1_code 13 = .ok (.dup, 1) := by decide +kernel
theorem d_Shelf_init_14 : decode prog_5_method_1_code 14 = .ok (.invokespecial 17, 3) := by decide +kernel
theorem d_Shelf_init_17 : decode prog_5_method_1_code 17 = .ok (.putfield 18, 3) := by decide +kernel
theorem d_Shelf_init_20 : decode prog_5_method_1_code 20 = .ok (.return_, 1) := by decide +kernel
theorem d_ArrayList_init_0 : decode prog_15_method_2_code 0 = .ok (.aload_n 0, 1) := by decide +kernel
theorem d_ArrayList_init_1 : decode prog_15_method_2_code 1 = .ok (.invokespecial 1, 3) := by decide +kernel
theorem d_ArrayList_init_4 : decode prog_15_method_2_code 4 = .ok (.aload_n 0, 1) := by decide +kernel
theorem d_ArrayList_init_5 : decode prog_15_method_2_code 5 = .ok (.getstatic 39, 3) := by decide +kernel
theorem d_ArrayList_init_8 : decode prog_15_method_2_code 8 = .ok (.putfield 9, 3) := by decide +kernel
theorem d_ArrayList_init_11 : decode prog_15_method_2_code 11 = .ok (.return_, 1) := by decide +kernel
theorem d_AbstractList_init_0 : decode prog_14_method_1_code 0 = .ok (.aload_n 0, 1) := by decide +kernel
theorem d_AbstractList_init_1 : decode prog_14_method_1_code 1 = .ok (.invokespecial 1, 3) := by decide +kernel
theorem d_AbstractList_init_4 : decode prog_14_method_1_code 4 = .ok (.aload_n 0, 1) := by decide +kernel
theorem d_AbstractList_init_5 : decode prog_14_method_1_code 5 = .ok (.iconst 0, 1) := by decide +kernel
theorem d_AbstractList_init_6 : decode prog_14_method_1_code 6 = .ok (.putfield 7, 3) := by decide +kernel
theorem d_AbstractList_init_9 : decode prog_14_method_1_code 9 = .ok (.return_, 1) := by decide +kernel
theorem d_AbstractCollection_init_0 : decode prog_13_method_1_code 0 = .ok (.aload_n 0, 1) := by decide +kernel
theorem d_AbstractCollection_init_1 : decode prog_13_method_1_code 1 = .ok (.invokespecial 1, 3) := by decide +kernel
theorem d_AbstractCollection_init_4 : decode prog_13_method_1_code 4 = .ok (.return_, 1) := by decide +kernel
theorem d_ContentStore_begin_0 : decode prog_1_method_2_code 0 = .ok (.iload_n 1, 1) := by decide +kernel
theorem d_ContentStore_begin_1 : decode prog_1_method_2_code 1 = .ok (.ifCond .lt 29, 3) := by decide +kernel
theorem d_ContentStore_begin_4 : decode prog_1_method_2_code 4 = .ok (.iload_n 1, 1) := by decide +kernel
theorem d_ContentStore_begin_5 : decode prog_1_method_2_code 5 = .ok (.bipush 96, 2) := by decide +kernel
theorem d_ContentStore_begin_7 : decode prog_1_method_2_code 7 = .ok (.if_icmp .gt 23, 3) := by decide +kernel
theorem d_ContentStore_begin_10 : decode prog_1_method_2_code 10 = .ok (.aload_n 0, 1) := by decide +kernel
theorem d_ContentStore_begin_11 : decode prog_1_method_2_code 11 = .ok (.getfield 43, 3) := by decide +kernel
theorem d_ContentStore_begin_14 : decode prog_1_method_2_code 14 = .ok (.iconst 4, 1) := by decide +kernel
theorem d_ContentStore_begin_15 : decode prog_1_method_2_code 15 = .ok (.if_icmp .ge 15, 3) := by decide +kernel
theorem d_ContentStore_begin_18 : decode prog_1_method_2_code 18 = .ok (.aload_n 0, 1) := by decide +kernel
theorem d_ContentStore_begin_19 : decode prog_1_method_2_code 19 = .ok (.getfield 47, 3) := by decide +kernel
theorem d_ContentStore_begin_22 : decode prog_1_method_2_code 22 = .ok (.aload_n 0, 1) := by decide +kernel
theorem d_ContentStore_begin_23 : decode prog_1_method_2_code 23 = .ok (.getfield 29, 3) := by decide +kernel
theorem d_ContentStore_begin_26 : decode prog_1_method_2_code 26 = .ok (.arraylength, 1) := by decide +kernel
theorem d_ContentStore_begin_27 : decode prog_1_method_2_code 27 = .ok (.if_icmp .lt 5, 3) := by decide +kernel
theorem d_ContentStore_begin_30 : decode prog_1_method_2_code 30 = .ok (.iconst (-1), 1) := by decide +kernel
theorem d_ContentStore_begin_31 : decode prog_1_method_2_code 31 = .ok (.ireturn, 1) := by decide +kernel
theorem d_ContentStore_begin_32 : decode prog_1_method_2_code 32 = .ok (.aload_n 0, 1) := by decide +kernel
theorem d_ContentStore_begin_33 : decode prog_1_method_2_code 33 = .ok (.getfield 47, 3) := by decide +kernel
theorem d_ContentStore_begin_36 : decode prog_1_method_2_code 36 = .ok (.istore 4, 2) := by decide +kernel
theorem d_ContentStore_begin_38 : decode prog_1_method_2_code 38 = .ok (.aload_n 0, 1) := by decide +kernel
theorem d_ContentStore_begin_39 : decode prog_1_method_2_code 39 = .ok (.getfield 29, 3) := by decide +kernel
theorem d_ContentStore_begin_42 : decode prog_1_method_2_code 42 = .ok (.iload 4, 2) := by decide +kernel
theorem d_ContentStore_begin_44 : decode prog_1_method_2_code 44 = .ok (.new 27, 3) := by decide +kernel
theorem d_ContentStore_begin_47 : decode prog_1_method_2_code 47 = .ok (.dup, 1) := by decide +kernel
theorem d_ContentStore_begin_48 : decode prog_1_method_2_code 48 = .ok (.iload_n 1, 1) := by decide +kernel
theorem d_ContentStore_begin_49 : decode prog_1_method_2_code 49 = .ok (.lload_n 2, 1) := by decide +kernel
theorem d_ContentStore_begin_50 : decode prog_1_method_2_code 50 = .ok (.invokespecial 50, 3) := by decide +kernel
theorem d_ContentStore_begin_53 : decode prog_1_method_2_code 53 = .ok (.aastore, 1) := by decide +kernel
theorem d_ContentStore_begin_54 : decode prog_1_method_2_code 54 = .ok (.aload_n 0, 1) := by decide +kernel
theorem d_ContentStore_begin_55 : decode prog_1_method_2_code 55 = .ok (.dup, 1) := by decide +kernel
theorem d_ContentStore_begin_56 : decode prog_1_method_2_code 56 = .ok (.getfield 47, 3) := by decide +kernel
theorem d_ContentStore_begin_59 : decode prog_1_method_2_code 59 = .ok (.iconst 1, 1) := by decide +kernel
theorem d_ContentStore_begin_60 : decode prog_1_method_2_code 60 = .ok (.iadd, 1) := by decide +kernel
theorem d_ContentStore_begin_61 : decode prog_1_method_2_code 61 = .ok (.putfield 47, 3) := by decide +kernel
theorem d_ContentStore_begin_64 : decode prog_1_method_2_code 64 = .ok (.aload_n 0, 1) := by decide +kernel
theorem d_ContentStore_begin_65 : decode prog_1_method_2_code 65 = .ok (.dup, 1) := by decide +kernel
theorem d_ContentStore_begin_66 : decode prog_1_method_2_code 66 = .ok (.getfield 43, 3) := by decide +kernel
theorem d_ContentStore_begin_69 : decode prog_1_method_2_code 69 = .ok (.iconst 1, 1) := by decide +kernel
theorem d_ContentStore_begin_70 : decode prog_1_method_2_code 70 = .ok (.iadd, 1) := by decide +kernel
theorem d_ContentStore_begin_71 : decode prog_1_method_2_code 71 = .ok (.putfield 43, 3) := by decide +kernel
theorem d_ContentStore_begin_74 : decode prog_1_method_2_code 74 = .ok (.iload 4, 2) := by decide +kernel
theorem d_ContentStore_begin_76 : decode prog_1_method_2_code 76 = .ok (.ireturn, 1) := by decide +kernel
theorem d_Put_init_0 : decode prog_4_method_1_code 0 = .ok (.aload_n 0, 1) := by decide +kernel
theorem d_Put_init_1 : decode prog_4_method_1_code 1 = .ok (.invokespecial 3, 3) := by decide +kernel
theorem d_Put_init_4 : decode prog_4_method_1_code 4 = .ok (.aload_n 0, 1) := by decide +kernel
theorem d_Put_init_5 : decode prog_4_method_1_code 5 = .ok (.iconst 0, 1) := by decide +kernel
theorem d_Put_init_6 : decode prog_4_method_1_code 6 = .ok (.iload_n 1, 1) := by decide +kernel
theorem d_Put_init_7 : decode prog_4_method_1_code 7 = .ok (.invokestatic 9, 3) := by decide +kernel
theorem d_Put_init_10 : decode prog_4_method_1_code 10 = .ok (.newarray .int, 2) := by decide +kernel
theorem d_Put_init_12 : decode prog_4_method_1_code 12 = .ok (.putfield 15, 3) := by decide +kernel
theorem d_Put_init_15 : decode prog_4_method_1_code 15 = .ok (.aload_n 0, 1) := by decide +kernel
theorem d_Put_init_16 : decode prog_4_method_1_code 16 = .ok (.lload_n 2, 1) := by decide +kernel
theorem d_Put_init_17 : decode prog_4_method_1_code 17 = .ok (.putfield 21, 3) := by decide +kernel
theorem d_Put_init_20 : decode prog_4_method_1_code 20 = .ok (.aload_n 0, 1) := by decide +kernel
theorem d_Put_init_21 : decode prog_4_method_1_code 21 = .ok (.iconst 1, 1) := by decide +kernel
theorem d_Put_init_22 : decode prog_4_method_1_code 22 = .ok (.putfield 25, 3) := by decide +kernel
theorem d_Put_init_25 : decode prog_4_method_1_code 25 = .ok (.return_, 1) := by decide +kernel
theorem d_ContentStore_add_0 : decode prog_1_method_3_code 0 = .ok (.aload_n 0, 1) := by decide +kernel
theorem d_ContentStore_add_1 : decode prog_1_method_3_code 1 = .ok (.iload_n 1, 1) := by decide +kernel
theorem d_ContentStore_add_2 : decode prog_1_method_3_code 2 = .ok (.invokevirtual 53, 3) := by decide +kernel
theorem d_ContentStore_add_5 : decode prog_1_method_3_code 5 = .ok (.astore 5, 2) := by decide +kernel
theorem d_ContentStore_add_7 : decode prog_1_method_3_code 7 = .ok (.aload 5, 2) := by decide +kernel
theorem d_ContentStore_add_9 : decode prog_1_method_3_code 9 = .ok (.ifnull 26, 3) := by decide +kernel
theorem d_ContentStore_add_12 : decode prog_1_method_3_code 12 = .ok (.iload 4, 2) := by decide +kernel
theorem d_ContentStore_add_14 : decode prog_1_method_3_code 14 = .ok (.iconst 1, 1) := by decide +kernel
theorem d_ContentStore_add_15 : decode prog_1_method_3_code 15 = .ok (.if_icmp .lt 20, 3) := by decide +kernel
theorem d_ContentStore_add_18 : decode prog_1_method_3_code 18 = .ok (.iload 4, 2) := by decide +kernel
theorem d_ContentStore_add_20 : decode prog_1_method_3_code 20 = .ok (.bipush 8, 2) := by decide +kernel
theorem d_ContentStore_add_22 : decode prog_1_method_3_code 22 = .ok (.if_icmp .gt 13, 3) := by decide +kernel
theorem d_ContentStore_add_25 : decode prog_1_method_3_code 25 = .ok (.iload 4, 2) := by decide +kernel
theorem d_ContentStore_add_27 : decode prog_1_method_3_code 27 = .ok (.aload 5, 2) := by decide +kernel
theorem d_ContentStore_add_29 : decode prog_1_method_3_code 29 = .ok (.invokevirtual 57, 3) := by decide +kernel
theorem d_ContentStore_add_32 : decode prog_1_method_3_code 32 = .ok (.if_icmp .le 5, 3) := by decide +kernel
theorem d_ContentStore_add_35 : decode prog_1_method_3_code 35 = .ok (.iconst (-1), 1) := by decide +kernel
theorem d_ContentStore_add_36 : decode prog_1_method_3_code 36 = .ok (.ireturn, 1) := by decide +kernel
theorem d_ContentStore_add_37 : decode prog_1_method_3_code 37 = .ok (.aload 5, 2) := by decide +kernel
theorem d_ContentStore_add_39 : decode prog_1_method_3_code 39 = .ok (.lload_n 2, 1) := by decide +kernel
theorem d_ContentStore_add_40 : decode prog_1_method_3_code 40 = .ok (.iload 4, 2) := by decide +kernel
theorem d_ContentStore_add_42 : decode prog_1_method_3_code 42 = .ok (.invokevirtual 61, 3) := by decide +kernel
theorem d_ContentStore_add_45 : decode prog_1_method_3_code 45 = .ok (.aload 5, 2) := by decide +kernel
theorem d_ContentStore_add_47 : decode prog_1_method_3_code 47 = .ok (.getfield 65, 3) := by decide +kernel
theorem d_ContentStore_add_50 : decode prog_1_method_3_code 50 = .ok (.ireturn, 1) := by decide +kernel
theorem d_ContentStore_openPut_0 : decode prog_1_method_20_code 0 = .ok (.iload_n 1, 1) := by decide +kernel
theorem d_ContentStore_openPut_1 : decode prog_1_method_20_code 1 = .ok (.ifCond .lt 20, 3) := by decide +kernel
theorem d_ContentStore_openPut_4 : decode prog_1_method_20_code 4 = .ok (.iload_n 1, 1) := by decide +kernel
theorem d_ContentStore_openPut_5 : decode prog_1_method_20_code 5 = .ok (.aload_n 0, 1) := by decide +kernel
theorem d_ContentStore_openPut_6 : decode prog_1_method_20_code 6 = .ok (.getfield 47, 3) := by decide +kernel
theorem d_ContentStore_openPut_9 : decode prog_1_method_20_code 9 = .ok (.if_icmp .ge 12, 3) := by decide +kernel
theorem d_ContentStore_openPut_12 : decode prog_1_method_20_code 12 = .ok (.iload_n 1, 1) := by decide +kernel
theorem d_ContentStore_openPut_13 : decode prog_1_method_20_code 13 = .ok (.aload_n 0, 1) := by decide +kernel
theorem d_ContentStore_openPut_14 : decode prog_1_method_20_code 14 = .ok (.getfield 29, 3) := by decide +kernel
theorem d_ContentStore_openPut_17 : decode prog_1_method_20_code 17 = .ok (.arraylength, 1) := by decide +kernel
theorem d_ContentStore_openPut_18 : decode prog_1_method_20_code 18 = .ok (.if_icmp .lt 5, 3) := by decide +kernel
theorem d_ContentStore_openPut_21 : decode prog_1_method_20_code 21 = .ok (.aconst_null, 1) := by decide +kernel
theorem d_ContentStore_openPut_22 : decode prog_1_method_20_code 22 = .ok (.areturn, 1) := by decide +kernel
theorem d_ContentStore_openPut_23 : decode prog_1_method_20_code 23 = .ok (.aload_n 0, 1) := by decide +kernel
theorem d_ContentStore_openPut_24 : decode prog_1_method_20_code 24 = .ok (.getfield 29, 3) := by decide +kernel
theorem d_ContentStore_openPut_27 : decode prog_1_method_20_code 27 = .ok (.iload_n 1, 1) := by decide +kernel
theorem d_ContentStore_openPut_28 : decode prog_1_method_20_code 28 = .ok (.aaload, 1) := by decide +kernel
theorem d_ContentStore_openPut_29 : decode prog_1_method_20_code 29 = .ok (.astore_n 2, 1) := by decide +kernel
theorem d_ContentStore_openPut_30 : decode prog_1_method_20_code 30 = .ok (.aload_n 2, 1) := by decide +kernel
theorem d_ContentStore_openPut_31 : decode prog_1_method_20_code 31 = .ok (.ifnull 14, 3) := by decide +kernel
theorem d_ContentStore_openPut_34 : decode prog_1_method_20_code 34 = .ok (.aload_n 2, 1) := by decide +kernel
theorem d_ContentStore_openPut_35 : decode prog_1_method_20_code 35 = .ok (.getfield 68, 3) := by decide +kernel
theorem d_ContentStore_openPut_38 : decode prog_1_method_20_code 38 = .ok (.ifCond .eq 7, 3) := by decide +kernel
theorem d_ContentStore_openPut_41 : decode prog_1_method_20_code 41 = .ok (.aload_n 2, 1) := by decide +kernel
theorem d_ContentStore_openPut_42 : decode prog_1_method_20_code 42 = .ok (.goto 4, 3) := by decide +kernel
theorem d_ContentStore_openPut_45 : decode prog_1_method_20_code 45 = .ok (.aconst_null, 1) := by decide +kernel
theorem d_ContentStore_openPut_46 : decode prog_1_method_20_code 46 = .ok (.areturn, 1) := by decide +kernel
theorem d_Put_lacking_0 : decode prog_4_method_2_code 0 = .ok (.aload_n 0, 1) := by decide +kernel
theorem d_Put_lacking_1 : decode prog_4_method_2_code 1 = .ok (.getfield 15, 3) := by decide +kernel
theorem d_Put_lacking_4 : decode prog_4_method_2_code 4 = .ok (.arraylength, 1) := by decide +kernel
theorem d_Put_lacking_5 : decode prog_4_method_2_code 5 = .ok (.aload_n 0, 1) := by decide +kernel
theorem d_Put_lacking_6 : decode prog_4_method_2_code 6 = .ok (.getfield 29, 3) := by decide +kernel
theorem d_Put_lacking_9 : decode prog_4_method_2_code 9 = .ok (.isub, 1) := by decide +kernel
theorem d_Put_lacking_10 : decode prog_4_method_2_code 10 = .ok (.ireturn, 1) := by decide +kernel
theorem d_Put_take_0 : decode prog_4_method_3_code 0 = .ok (.iload_n 3, 1) := by decide +kernel
theorem d_Put_take_1 : decode prog_4_method_3_code 1 = .ok (.iconst 1, 1) := by decide +kernel
theorem d_Put_take_2 : decode prog_4_method_3_code 2 = .ok (.isub, 1) := by decide +kernel
theorem d_Put_take_3 : decode prog_4_method_3_code 3 = .ok (.istore 4, 2) := by decide +kernel
theorem d_Put_take_5 : decode prog_4_method_3_code 5 = .ok (.iload 4, 2) := by decide +kernel
theorem d_Put_take_7 : decode prog_4_method_3_code 7 = .ok (.ifCond .lt 52, 3) := by decide +kernel
theorem d_Put_take_10 : decode prog_4_method_3_code 10 = .ok (.aload_n 0, 1) := by decide +kernel
theorem d_Put_take_11 : decode prog_4_method_3_code 11 = .ok (.getfield 29, 3) := by decide +kernel
theorem d_Put_take_14 : decode prog_4_method_3_code 14 = .ok (.aload_n 0, 1) := by decide +kernel
theorem d_Put_take_15 : decode prog_4_method_3_code 15 = .ok (.getfield 15, 3) := by decide +kernel
theorem d_Put_take_18 : decode prog_4_method_3_code 18 = .ok (.arraylength, 1) := by decide +kernel
theorem d_Put_take_19 : decode prog_4_method_3_code 19 = .ok (.if_icmp .ge 40, 3) := by decide +kernel
theorem d_Put_take_22 : decode prog_4_method_3_code 22 = .ok (.aload_n 0, 1) := by decide +kernel
theorem d_Put_take_23 : decode prog_4_method_3_code 23 = .ok (.getfield 15, 3) := by decide +kernel
theorem d_Put_take_26 : decode prog_4_method_3_code 26 = .ok (.aload_n 0, 1) := by decide +kernel
theorem d_Put_take_27 : decode prog_4_method_3_code 27 = .ok (.getfield 29, 3) := by decide +kernel
theorem d_Put_take_30 : decode prog_4_method_3_code 30 = .ok (.lload_n 1, 1) := by decide +kernel
theorem d_Put_take_31 : decode prog_4_method_3_code 31 = .ok (.bipush 8, 2) := by decide +kernel
theorem d_Put_take_33 : decode prog_4_method_3_code 33 = .ok (.iload 4, 2) := by decide +kernel
theorem d_Put_take_35 : decode prog_4_method_3_code 35 = .ok (.imul, 1) := by decide +kernel
theorem d_Put_take_36 : decode prog_4_method_3_code 36 = .ok (.lushr, 1) := by decide +kernel
theorem d_Put_take_37 : decode prog_4_method_3_code 37 = .ok (.l2i, 1) := by decide +kernel
theorem d_Put_take_38 : decode prog_4_method_3_code 38 = .ok (.sipush 255, 3) := by decide +kernel
theorem d_Put_take_41 : decode prog_4_method_3_code 41 = .ok (.iand, 1) := by decide +kernel
theorem d_Put_take_42 : decode prog_4_method_3_code 42 = .ok (.iastore, 1) := by decide +kernel
theorem d_Put_take_43 : decode prog_4_method_3_code 43 = .ok (.aload_n 0, 1) := by decide +kernel
theorem d_Put_take_44 : decode prog_4_method_3_code 44 = .ok (.dup, 1) := by decide +kernel
theorem d_Put_take_45 : decode prog_4_method_3_code 45 = .ok (.getfield 29, 3) := by decide +kernel
theorem d_Put_take_48 : decode prog_4_method_3_code 48 = .ok (.iconst 1, 1) := by decide +kernel
theorem d_Put_take_49 : decode prog_4_method_3_code 49 = .ok (.iadd, 1) := by decide +kernel
theorem d_Put_take_50 : decode prog_4_method_3_code 50 = .ok (.putfield 29, 3) := by decide +kernel
theorem d_Put_take_53 : decode prog_4_method_3_code 53 = .ok (.iinc 4 (-1), 3) := by decide +kernel
theorem d_Put_take_56 : decode prog_4_method_3_code 56 = .ok (.goto (-51), 3) := by decide +kernel
theorem d_Put_take_59 : decode prog_4_method_3_code 59 = .ok (.return_, 1) := by decide +kernel
theorem d_ContentStore_end_0 : decode prog_1_method_4_code 0 = .ok (.aload_n 0, 1) := by decide +kernel
theorem d_ContentStore_end_1 : decode prog_1_method_4_code 1 = .ok (.iload_n 1, 1) := by decide +kernel
theorem d_ContentStore_end_2 : decode prog_1_method_4_code 2 = .ok (.invokevirtual 53, 3) := by decide +kernel
theorem d_ContentStore_end_5 : decode prog_1_method_4_code 5 = .ok (.astore_n 2, 1) := by decide +kernel
theorem d_ContentStore_end_6 : decode prog_1_method_4_code 6 = .ok (.aload_n 2, 1) := by decide +kernel
theorem d_ContentStore_end_7 : decode prog_1_method_4_code 7 = .ok (.ifnonnull 5, 3) := by decide +kernel
theorem d_ContentStore_end_10 : decode prog_1_method_4_code 10 = .ok (.iconst (-1), 1) := by decide +kernel
theorem d_ContentStore_end_11 : decode prog_1_method_4_code 11 = .ok (.ireturn, 1) := by decide +kernel
theorem d_ContentStore_end_12 : decode prog_1_method_4_code 12 = .ok (.aload_n 2, 1) := by decide +kernel
theorem d_ContentStore_end_13 : decode prog_1_method_4_code 13 = .ok (.iconst 0, 1) := by decide +kernel
theorem d_ContentStore_end_14 : decode prog_1_method_4_code 14 = .ok (.putfield 68, 3) := by decide +kernel
theorem d_ContentStore_end_17 : decode prog_1_method_4_code 17 = .ok (.aload_n 0, 1) := by decide +kernel
theorem d_ContentStore_end_18 : decode prog_1_method_4_code 18 = .ok (.dup, 1) := by decide +kernel
theorem d_ContentStore_end_19 : decode prog_1_method_4_code 19 = .ok (.getfield 43, 3) := by decide +kernel
theorem d_ContentStore_end_22 : decode prog_1_method_4_code 22 = .ok (.iconst 1, 1) := by decide +kernel
theorem d_ContentStore_end_23 : decode prog_1_method_4_code 23 = .ok (.isub, 1) := by decide +kernel
theorem d_ContentStore_end_24 : decode prog_1_method_4_code 24 = .ok (.putfield 43, 3) := by decide +kernel
theorem d_ContentStore_end_27 : decode prog_1_method_4_code 27 = .ok (.aload_n 2, 1) := by decide +kernel
theorem d_ContentStore_end_28 : decode prog_1_method_4_code 28 = .ok (.invokevirtual 72, 3) := by decide +kernel
theorem d_ContentStore_end_31 : decode prog_1_method_4_code 31 = .ok (.ifCond .eq 6, 3) := by decide +kernel
theorem d_ContentStore_end_34 : decode prog_1_method_4_code 34 = .ok (.bipush (-2), 2) := by decide +kernel
theorem d_ContentStore_end_36 : decode prog_1_method_4_code 36 = .ok (.ireturn, 1) := by decide +kernel
theorem d_ContentStore_end_37 : decode prog_1_method_4_code 37 = .ok (.aload_n 0, 1) := by decide +kernel
theorem d_ContentStore_end_38 : decode prog_1_method_4_code 38 = .ok (.aload_n 2, 1) := by decide +kernel
theorem d_ContentStore_end_39 : decode prog_1_method_4_code 39 = .ok (.getfield 76, 3) := by decide +kernel
theorem d_ContentStore_end_42 : decode prog_1_method_4_code 42 = .ok (.invokevirtual 79, 3) := by decide +kernel
theorem d_ContentStore_end_45 : decode prog_1_method_4_code 45 = .ok (.istore_n 3, 1) := by decide +kernel
theorem d_ContentStore_end_46 : decode prog_1_method_4_code 46 = .ok (.iload_n 3, 1) := by decide +kernel
theorem d_ContentStore_end_47 : decode prog_1_method_4_code 47 = .ok (.iconst (-1), 1) := by decide +kernel
theorem d_ContentStore_end_48 : decode prog_1_method_4_code 48 = .ok (.if_icmp .eq 7, 3) := by decide +kernel
theorem d_ContentStore_end_51 : decode prog_1_method_4_code 51 = .ok (.iload_n 3, 1) := by decide +kernel
theorem d_ContentStore_end_52 : decode prog_1_method_4_code 52 = .ok (.goto 11, 3) := by decide +kernel
theorem d_ContentStore_end_55 : decode prog_1_method_4_code 55 = .ok (.aload_n 0, 1) := by decide +kernel
theorem d_ContentStore_end_56 : decode prog_1_method_4_code 56 = .ok (.aload_n 2, 1) := by decide +kernel
theorem d_ContentStore_end_57 : decode prog_1_method_4_code 57 = .ok (.getfield 76, 3) := by decide +kernel
theorem d_ContentStore_end_60 : decode prog_1_method_4_code 60 = .ok (.invokevirtual 83, 3) := by decide +kernel
theorem d_ContentStore_end_63 : decode prog_1_method_4_code 63 = .ok (.ireturn, 1) := by decide +kernel
theorem d_Put_differs_0 : decode prog_4_method_4_code 0 = .ok (.aload_n 0, 1) := by decide +kernel
theorem d_Put_differs_1 : decode prog_4_method_4_code 1 = .ok (.getfield 29, 3) := by decide +kernel
theorem d_Put_differs_4 : decode prog_4_method_4_code 4 = .ok (.aload_n 0, 1) := by decide +kernel
theorem d_Put_differs_5 : decode prog_4_method_4_code 5 = .ok (.getfield 15, 3) := by decide +kernel
theorem d_Put_differs_8 : decode prog_4_method_4_code 8 = .ok (.arraylength, 1) := by decide +kernel
theorem d_Put_differs_9 : decode prog_4_method_4_code 9 = .ok (.if_icmp .ne 12, 3) := by decide +kernel
theorem d_Put_differs_12 : decode prog_4_method_4_code 12 = .ok (.aload_n 0, 1) := by decide +kernel
theorem d_Put_differs_13 : decode prog_4_method_4_code 13 = .ok (.getfield 21, 3) := by decide +kernel
theorem d_Put_differs_16 : decode prog_4_method_4_code 16 = .ok (.lconst 0, 1) := by decide +kernel
theorem d_Put_differs_17 : decode prog_4_method_4_code 17 = .ok (.lcmp, 1) := by decide +kernel
theorem d_Put_differs_18 : decode prog_4_method_4_code 18 = .ok (.ifCond .eq 7, 3) := by decide +kernel
theorem d_Put_differs_21 : decode prog_4_method_4_code 21 = .ok (.iconst 1, 1) := by decide +kernel
theorem d_Put_differs_22 : decode prog_4_method_4_code 22 = .ok (.goto 4, 3) := by decide +kernel
theorem d_Put_differs_25 : decode prog_4_method_4_code 25 = .ok (.iconst 0, 1) := by decide +kernel
theorem d_Put_differs_26 : decode prog_4_method_4_code 26 = .ok (.ireturn, 1) := by decide +kernel
theorem d_ContentStore_soundBlobWith_0 : decode prog_1_method_22_code 0 = .ok (.iconst 0, 1) := by decide +kernel
theorem d_ContentStore_soundBlobWith_1 : decode prog_1_method_22_code 1 = .ok (.istore_n 2, 1) := by decide +kernel
theorem d_ContentStore_soundBlobWith_2 : decode prog_1_method_22_code 2 = .ok (.iload_n 2, 1) := by decide +kernel
theorem d_ContentStore_soundBlobWith_3 : decode prog_1_method_22_code 3 = .ok (.aload_n 0, 1) := by decide +kernel
theorem d_ContentStore_soundBlobWith_4 : decode prog_1_method_22_code 4 = .ok (.getfield 139, 3) := by decide +kernel
theorem d_ContentStore_soundBlobWith_7 : decode prog_1_method_22_code 7 = .ok (.if_icmp .ge 36, 3) := by decide +kernel
theorem d_ContentStore_soundBlobWith_10 : decode prog_1_method_22_code 10 = .ok (.aload_n 0, 1) := by decide +kernel
theorem d_ContentStore_soundBlobWith_11 : decode prog_1_method_22_code 11 = .ok (.iload_n 2, 1) := by decide +kernel
theorem d_ContentStore_soundBlobWith_12 : decode prog_1_method_22_code 12 = .ok (.invokevirtual 86, 3) := by decide +kernel
theorem d_ContentStore_soundBlobWith_15 : decode prog_1_method_22_code 15 = .ok (.astore_n 3, 1) := by decide +kernel
theorem d_ContentStore_soundBlobWith_16 : decode prog_1_method_22_code 16 = .ok (.aload_n 3, 1) := by decide +kernel
theorem d_ContentStore_soundBlobWith_17 : decode prog_1_method_22_code 17 = .ok (.ifnull 20, 3) := by decide +kernel
theorem d_ContentStore_soundBlobWith_20 : decode prog_1_method_22_code 20 = .ok (.aload_n 3, 1) := by decide +kernel
theorem d_ContentStore_soundBlobWith_21 : decode prog_1_method_22_code 21 = .ok (.aload_n 1, 1) := by decide +kernel
theorem d_ContentStore_soundBlobWith_22 : decode prog_1_method_22_code 22 = .ok (.invokevirtual 179, 3) := by decide +kernel
theorem d_ContentStore_soundBlobWith_25 : decode prog_1_method_22_code 25 = .ok (.ifCond .eq 12, 3) := by decide +kernel
theorem d_ContentStore_soundBlobWith_28 : decode prog_1_method_22_code 28 = .ok (.aload_n 3, 1) := by decide +kernel
theorem d_ContentStore_soundBlobWith_29 : decode prog_1_method_22_code 29 = .ok (.invokevirtual 101, 3) := by decide +kernel
theorem d_ContentStore_soundBlobWith_32 : decode prog_1_method_22_code 32 = .ok (.ifCond .eq 5, 3) := by decide +kernel
theorem d_ContentStore_soundBlobWith_35 : decode prog_1_method_22_code 35 = .ok (.iload_n 2, 1) := by decide +kernel
theorem d_ContentStore_soundBlobWith_36 : decode prog_1_method_22_code 36 = .ok (.ireturn, 1) := by decide +kernel
theorem d_ContentStore_soundBlobWith_37 : decode prog_1_method_22_code 37 = .ok (.iinc 2 1, 3) := by decide +kernel
theorem d_ContentStore_soundBlobWith_40 : decode prog_1_method_22_code 40 = .ok (.goto (-38), 3) := by decide +kernel
theorem d_ContentStore_soundBlobWith_43 : decode prog_1_method_22_code 43 = .ok (.iconst (-1), 1) := by decide +kernel
theorem d_ContentStore_soundBlobWith_44 : decode prog_1_method_22_code 44 = .ok (.ireturn, 1) := by decide +kernel
theorem d_ContentStore_blobAt_0 : decode prog_1_method_21_code 0 = .ok (.iload_n 1, 1) := by decide +kernel
theorem d_ContentStore_blobAt_1 : decode prog_1_method_21_code 1 = .ok (.ifCond .lt 20, 3) := by decide +kernel
theorem d_ContentStore_blobAt_4 : decode prog_1_method_21_code 4 = .ok (.iload_n 1, 1) := by decide +kernel
theorem d_ContentStore_blobAt_5 : decode prog_1_method_21_code 5 = .ok (.aload_n 0, 1) := by decide +kernel
theorem d_ContentStore_blobAt_6 : decode prog_1_method_21_code 6 = .ok (.getfield 139, 3) := by decide +kernel
theorem d_ContentStore_blobAt_9 : decode prog_1_method_21_code 9 = .ok (.if_icmp .ge 12, 3) := by decide +kernel
theorem d_ContentStore_blobAt_12 : decode prog_1_method_21_code 12 = .ok (.iload_n 1, 1) := by decide +kernel
theorem d_ContentStore_blobAt_13 : decode prog_1_method_21_code 13 = .ok (.aload_n 0, 1) := by decide +kernel
theorem d_ContentStore_blobAt_14 : decode prog_1_method_21_code 14 = .ok (.getfield 35, 3) := by decide +kernel
theorem d_ContentStore_blobAt_17 : decode prog_1_method_21_code 17 = .ok (.arraylength, 1) := by decide +kernel
theorem d_ContentStore_blobAt_18 : decode prog_1_method_21_code 18 = .ok (.if_icmp .lt 5, 3) := by decide +kernel
theorem d_ContentStore_blobAt_21 : decode prog_1_method_21_code 21 = .ok (.aconst_null, 1) := by decide +kernel
theorem d_ContentStore_blobAt_22 : decode prog_1_method_21_code 22 = .ok (.areturn, 1) := by decide +kernel
theorem d_ContentStore_blobAt_23 : decode prog_1_method_21_code 23 = .ok (.aload_n 0, 1) := by decide +kernel
theorem d_ContentStore_blobAt_24 : decode prog_1_method_21_code 24 = .ok (.getfield 35, 3) := by decide +kernel
theorem d_ContentStore_blobAt_27 : decode prog_1_method_21_code 27 = .ok (.iload_n 1, 1) := by decide +kernel
theorem d_ContentStore_blobAt_28 : decode prog_1_method_21_code 28 = .ok (.aaload, 1) := by decide +kernel
theorem d_ContentStore_blobAt_29 : decode prog_1_method_21_code 29 = .ok (.astore_n 2, 1) := by decide +kernel
theorem d_ContentStore_blobAt_30 : decode prog_1_method_21_code 30 = .ok (.aload_n 2, 1) := by decide +kernel
theorem d_ContentStore_blobAt_31 : decode prog_1_method_21_code 31 = .ok (.ifnull 14, 3) := by decide +kernel
theorem d_ContentStore_blobAt_34 : decode prog_1_method_21_code 34 = .ok (.aload_n 2, 1) := by decide +kernel
theorem d_ContentStore_blobAt_35 : decode prog_1_method_21_code 35 = .ok (.getfield 176, 3) := by decide +kernel
theorem d_ContentStore_blobAt_38 : decode prog_1_method_21_code 38 = .ok (.ifCond .eq 7, 3) := by decide +kernel
theorem d_ContentStore_blobAt_41 : decode prog_1_method_21_code 41 = .ok (.aload_n 2, 1) := by decide +kernel
theorem d_ContentStore_blobAt_42 : decode prog_1_method_21_code 42 = .ok (.goto 4, 3) := by decide +kernel
theorem d_ContentStore_blobAt_45 : decode prog_1_method_21_code 45 = .ok (.aconst_null, 1) := by decide +kernel
theorem d_ContentStore_blobAt_46 : decode prog_1_method_21_code 46 = .ok (.areturn, 1) := by decide +kernel
theorem d_Blob_hasBytes_0 : decode prog_2_method_4_code 0 = .ok (.aload_n 1, 1) := by decide +kernel
theorem d_Blob_hasBytes_1 : decode prog_2_method_4_code 1 = .ok (.arraylength, 1) := by decide +kernel
theorem d_Blob_hasBytes_2 : decode prog_2_method_4_code 2 = .ok (.aload_n 0, 1) := by decide +kernel
theorem d_Blob_hasBytes_3 : decode prog_2_method_4_code 3 = .ok (.getfield 9, 3) := by decide +kernel
theorem d_Blob_hasBytes_6 : decode prog_2_method_4_code 6 = .ok (.if_icmp .eq 5, 3) := by decide +kernel
theorem d_Blob_hasBytes_9 : decode prog_2_method_4_code 9 = .ok (.iconst 0, 1) := by decide +kernel
theorem d_Blob_hasBytes_10 : decode prog_2_method_4_code 10 = .ok (.ireturn, 1) := by decide +kernel
theorem d_Blob_hasBytes_11 : decode prog_2_method_4_code 11 = .ok (.iconst 0, 1) := by decide +kernel
theorem d_Blob_hasBytes_12 : decode prog_2_method_4_code 12 = .ok (.istore_n 2, 1) := by decide +kernel
theorem d_Blob_hasBytes_13 : decode prog_2_method_4_code 13 = .ok (.iload_n 2, 1) := by decide +kernel
theorem d_Blob_hasBytes_14 : decode prog_2_method_4_code 14 = .ok (.aload_n 0, 1) := by decide +kernel
theorem d_Blob_hasBytes_15 : decode prog_2_method_4_code 15 = .ok (.getfield 30, 3) := by decide +kernel
theorem d_Blob_hasBytes_18 : decode prog_2_method_4_code 18 = .ok (.arraylength, 1) := by decide +kernel
theorem d_Blob_hasBytes_19 : decode prog_2_method_4_code 19 = .ok (.if_icmp .ge 32, 3) := by decide +kernel
theorem d_Blob_hasBytes_22 : decode prog_2_method_4_code 22 = .ok (.aload_n 0, 1) := by decide +kernel
theorem d_Blob_hasBytes_23 : decode prog_2_method_4_code 23 = .ok (.getfield 30, 3) := by decide +kernel
theorem d_Blob_hasBytes_26 : decode prog_2_method_4_code 26 = .ok (.iload_n 2, 1) := by decide +kernel
theorem d_Blob_hasBytes_27 : decode prog_2_method_4_code 27 = .ok (.aaload, 1) := by decide +kernel
theorem d_Blob_hasBytes_28 : decode prog_2_method_4_code 28 = .ok (.getfield 41, 3) := by decide +kernel
theorem d_Blob_hasBytes_31 : decode prog_2_method_4_code 31 = .ok (.iconst 0, 1) := by decide +kernel
theorem d_Blob_hasBytes_32 : decode prog_2_method_4_code 32 = .ok (.aload_n 1, 1) := by decide +kernel
theorem d_Blob_hasBytes_33 : decode prog_2_method_4_code 33 = .ok (.iload_n 2, 1) := by decide +kernel
theorem d_Blob_hasBytes_34 : decode prog_2_method_4_code 34 = .ok (.bipush 16, 2) := by decide +kernel
theorem d_Blob_hasBytes_36 : decode prog_2_method_4_code 36 = .ok (.imul, 1) := by decide +kernel
theorem d_Blob_hasBytes_37 : decode prog_2_method_4_code 37 = .ok (.invokestatic 47, 3) := by decide +kernel
theorem d_Blob_hasBytes_40 : decode prog_2_method_4_code 40 = .ok (.ifCond .ne 5, 3) := by decide +kernel
theorem d_Blob_hasBytes_43 : decode prog_2_method_4_code 43 = .ok (.iconst 0, 1) := by decide +kernel
theorem d_Blob_hasBytes_44 : decode prog_2_method_4_code 44 = .ok (.ireturn, 1) := by decide +kernel
theorem d_Blob_hasBytes_45 : decode prog_2_method_4_code 45 = .ok (.iinc 2 1, 3) := by decide +kernel
theorem d_Blob_hasBytes_48 : decode prog_2_method_4_code 48 = .ok (.goto (-35), 3) := by decide +kernel
theorem d_Blob_hasBytes_51 : decode prog_2_method_4_code 51 = .ok (.iconst 1, 1) := by decide +kernel
theorem d_Blob_hasBytes_52 : decode prog_2_method_4_code 52 = .ok (.ireturn, 1) := by decide +kernel
theorem d_ContentStore_areAlike_0 : decode prog_1_method_32_code 0 = .ok (.aload_n 0, 1) := by decide +kernel
theorem d_ContentStore_areAlike_1 : decode prog_1_method_32_code 1 = .ok (.iload_n 1, 1) := by decide +kernel
theorem d_ContentStore_areAlike_2 : decode prog_1_method_32_code 2 = .ok (.invokestatic 192, 3) := by decide +kernel
theorem d_ContentStore_areAlike_5 : decode prog_1_method_32_code 5 = .ok (.istore 4, 2) := by decide +kernel
theorem d_ContentStore_areAlike_7 : decode prog_1_method_32_code 7 = .ok (.iload 4, 2) := by decide +kernel
theorem d_ContentStore_areAlike_9 : decode prog_1_method_32_code 9 = .ok (.aload_n 2, 1) := by decide +kernel
theorem d_ContentStore_areAlike_10 : decode prog_1_method_32_code 10 = .ok (.iload_n 3, 1) := by decide +kernel
theorem d_ContentStore_areAlike_11 : decode prog_1_method_32_code 11 = .ok (.invokestatic 192, 3) := by decide +kernel
theorem d_ContentStore_areAlike_14 : decode prog_1_method_32_code 14 = .ok (.if_icmp .eq 5, 3) := by decide +kernel
theorem d_ContentStore_areAlike_17 : decode prog_1_method_32_code 17 = .ok (.iconst 0, 1) := by decide +kernel
theorem d_ContentStore_areAlike_18 : decode prog_1_method_32_code 18 = .ok (.ireturn, 1) := by decide +kernel
theorem d_ContentStore_areAlike_19 : decode prog_1_method_32_code 19 = .ok (.iconst 0, 1) := by decide +kernel
theorem d_ContentStore_areAlike_20 : decode prog_1_method_32_code 20 = .ok (.istore 5, 2) := by decide +kernel
theorem d_ContentStore_areAlike_22 : decode prog_1_method_32_code 22 = .ok (.iload 5, 2) := by decide +kernel
theorem d_ContentStore_areAlike_24 : decode prog_1_method_32_code 24 = .ok (.iload 4, 2) := by decide +kernel
theorem d_ContentStore_areAlike_26 : decode prog_1_method_32_code 26 = .ok (.if_icmp .ge 26, 3) := by decide +kernel
theorem d_ContentStore_areAlike_29 : decode prog_1_method_32_code 29 = .ok (.aload_n 0, 1) := by decide +kernel
theorem d_ContentStore_areAlike_30 : decode prog_1_method_32_code 30 = .ok (.iload_n 1, 1) := by decide +kernel
theorem d_ContentStore_areAlike_31 : decode prog_1_method_32_code 31 = .ok (.iload 5, 2) := by decide +kernel
theorem d_ContentStore_areAlike_33 : decode prog_1_method_32_code 33 = .ok (.iadd, 1) := by decide +kernel
theorem d_ContentStore_areAlike_34 : decode prog_1_method_32_code 34 = .ok (.iaload, 1) := by decide +kernel
theorem d_ContentStore_areAlike_35 : decode prog_1_method_32_code 35 = .ok (.aload_n 2, 1) := by decide +kernel
theorem d_ContentStore_areAlike_36 : decode prog_1_method_32_code 36 = .ok (.iload_n 3, 1) := by decide +kernel
theorem d_ContentStore_areAlike_37 : decode prog_1_method_32_code 37 = .ok (.iload 5, 2) := by decide +kernel
theorem d_ContentStore_areAlike_39 : decode prog_1_method_32_code 39 = .ok (.iadd, 1) := by decide +kernel
theorem d_ContentStore_areAlike_40 : decode prog_1_method_32_code 40 = .ok (.iaload, 1) := by decide +kernel
theorem d_ContentStore_areAlike_41 : decode prog_1_method_32_code 41 = .ok (.if_icmp .eq 5, 3) := by decide +kernel
theorem d_ContentStore_areAlike_44 : decode prog_1_method_32_code 44 = .ok (.iconst 0, 1) := by decide +kernel
theorem d_ContentStore_areAlike_45 : decode prog_1_method_32_code 45 = .ok (.ireturn, 1) := by decide +kernel
theorem d_ContentStore_areAlike_46 : decode prog_1_method_32_code 46 = .ok (.iinc 5 1, 3) := by decide +kernel
theorem d_ContentStore_areAlike_49 : decode prog_1_method_32_code 49 = .ok (.goto (-27), 3) := by decide +kernel
theorem d_ContentStore_areAlike_52 : decode prog_1_method_32_code 52 = .ok (.iconst 1, 1) := by decide +kernel
theorem d_ContentStore_areAlike_53 : decode prog_1_method_32_code 53 = .ok (.ireturn, 1) := by decide +kernel
theorem d_ContentStore_partLength_0 : decode prog_1_method_31_code 0 = .ok (.iload_n 1, 1) := by decide +kernel
theorem d_ContentStore_partLength_1 : decode prog_1_method_31_code 1 = .ok (.ifCond .lt 9, 3) := by decide +kernel
theorem d_ContentStore_partLength_4 : decode prog_1_method_31_code 4 = .ok (.iload_n 1, 1) := by decide +kernel
theorem d_ContentStore_partLength_5 : decode prog_1_method_31_code 5 = .ok (.aload_n 0, 1) := by decide +kernel
theorem d_ContentStore_partLength_6 : decode prog_1_method_31_code 6 = .ok (.arraylength, 1) := by decide +kernel
theorem d_ContentStore_partLength_7 : decode prog_1_method_31_code 7 = .ok (.if_icmp .lt 7, 3) := by decide +kernel
theorem d_ContentStore_partLength_10 : decode prog_1_method_31_code 10 = .ok (.iconst 0, 1) := by decide +kernel
theorem d_ContentStore_partLength_11 : decode prog_1_method_31_code 11 = .ok (.goto 12, 3) := by decide +kernel
theorem d_ContentStore_partLength_14 : decode prog_1_method_31_code 14 = .ok (.bipush 16, 2) := by decide +kernel
theorem d_ContentStore_partLength_16 : decode prog_1_method_31_code 16 = .ok (.aload_n 0, 1) := by decide +kernel
theorem d_ContentStore_partLength_17 : decode prog_1_method_31_code 17 = .ok (.arraylength, 1) := by decide +kernel
theorem d_ContentStore_partLength_18 : decode prog_1_method_31_code 18 = .ok (.iload_n 1, 1) := by decide +kernel
theorem d_ContentStore_partLength_19 : decode prog_1_method_31_code 19 = .ok (.isub, 1) := by decide +kernel
theorem d_ContentStore_partLength_20 : decode prog_1_method_31_code 20 = .ok (.invokestatic 11, 3) := by decide +kernel
theorem d_ContentStore_partLength_23 : decode prog_1_method_31_code 23 = .ok (.ireturn, 1) := by decide +kernel
theorem d_Blob_isSound_0 : decode prog_2_method_5_code 0 = .ok (.iconst 0, 1) := by decide +kernel
theorem d_Blob_isSound_1 : decode prog_2_method_5_code 1 = .ok (.istore_n 1, 1) := by decide +kernel
theorem d_Blob_isSound_2 : decode prog_2_method_5_code 2 = .ok (.iconst 0, 1) := by decide +kernel
theorem d_Blob_isSound_3 : decode prog_2_method_5_code 3 = .ok (.istore_n 2, 1) := by decide +kernel
theorem d_Blob_isSound_4 : decode prog_2_method_5_code 4 = .ok (.iload_n 2, 1) := by decide +kernel
theorem d_Blob_isSound_5 : decode prog_2_method_5_code 5 = .ok (.aload_n 0, 1) := by decide +kernel
theorem d_Blob_isSound_6 : decode prog_2_method_5_code 6 = .ok (.getfield 30, 3) := by decide +kernel
theorem d_Blob_isSound_9 : decode prog_2_method_5_code 9 = .ok (.arraylength, 1) := by decide +kernel
theorem d_Blob_isSound_10 : decode prog_2_method_5_code 10 = .ok (.if_icmp .ge 23, 3) := by decide +kernel
theorem d_Blob_isSound_13 : decode prog_2_method_5_code 13 = .ok (.iload_n 1, 1) := by decide +kernel
theorem d_Blob_isSound_14 : decode prog_2_method_5_code 14 = .ok (.aload_n 0, 1) := by decide +kernel
theorem d_Blob_isSound_15 : decode prog_2_method_5_code 15 = .ok (.getfield 30, 3) := by decide +kernel
theorem d_Blob_isSound_18 : decode prog_2_method_5_code 18 = .ok (.iload_n 2, 1) := by decide +kernel
theorem d_Blob_isSound_19 : decode prog_2_method_5_code 19 = .ok (.aaload, 1) := by decide +kernel
theorem d_Blob_isSound_20 : decode prog_2_method_5_code 20 = .ok (.getfield 41, 3) := by decide +kernel
theorem d_Blob_isSound_23 : decode prog_2_method_5_code 23 = .ok (.invokestatic 15, 3) := by decide +kernel
theorem d_Blob_isSound_26 : decode prog_2_method_5_code 26 = .ok (.istore_n 1, 1) := by decide +kernel
theorem d_Blob_isSound_27 : decode prog_2_method_5_code 27 = .ok (.iinc 2 1, 3) := by decide +kernel
theorem d_Blob_isSound_30 : decode prog_2_method_5_code 30 = .ok (.goto (-26), 3) := by decide +kernel
theorem d_Blob_isSound_33 : decode prog_2_method_5_code 33 = .ok (.iload_n 1, 1) := by decide +kernel
theorem d_Blob_isSound_34 : decode prog_2_method_5_code 34 = .ok (.aload_n 0, 1) := by decide +kernel
theorem d_Blob_isSound_35 : decode prog_2_method_5_code 35 = .ok (.getfield 19, 3) := by decide +kernel
theorem d_Blob_isSound_38 : decode prog_2_method_5_code 38 = .ok (.if_icmp .ne 7, 3) := by decide +kernel
theorem d_Blob_isSound_41 : decode prog_2_method_5_code 41 = .ok (.iconst 1, 1) := by decide +kernel
theorem d_Blob_isSound_42 : decode prog_2_method_5_code 42 = .ok (.goto 4, 3) := by decide +kernel
theorem d_Blob_isSound_45 : decode prog_2_method_5_code 45 = .ok (.iconst 0, 1) := by decide +kernel
theorem d_Blob_isSound_46 : decode prog_2_method_5_code 46 = .ok (.ireturn, 1) := by decide +kernel
theorem d_ContentStore_sumBehind_0 : decode prog_1_method_29_code 0 = .ok (.iload_n 0, 1) := by decide +kernel
theorem d_ContentStore_sumBehind_1 : decode prog_1_method_29_code 1 = .ok (.istore_n 2, 1) := by decide +kernel
theorem d_ContentStore_sumBehind_2 : decode prog_1_method_29_code 2 = .ok (.iconst 0, 1) := by decide +kernel
theorem d_ContentStore_sumBehind_3 : decode prog_1_method_29_code 3 = .ok (.istore_n 3, 1) := by decide +kernel
theorem d_ContentStore_sumBehind_4 : decode prog_1_method_29_code 4 = .ok (.iload_n 3, 1) := by decide +kernel
theorem d_ContentStore_sumBehind_5 : decode prog_1_method_29_code 5 = .ok (.aload_n 1, 1) := by decide +kernel
theorem d_ContentStore_sumBehind_6 : decode prog_1_method_29_code 6 = .ok (.arraylength, 1) := by decide +kernel
theorem d_ContentStore_sumBehind_7 : decode prog_1_method_29_code 7 = .ok (.if_icmp .ge 30, 3) := by decide +kernel
theorem d_ContentStore_sumBehind_10 : decode prog_1_method_29_code 10 = .ok (.iload_n 2, 1) := by decide +kernel
theorem d_ContentStore_sumBehind_11 : decode prog_1_method_29_code 11 = .ok (.aload_n 1, 1) := by decide +kernel
theorem d_ContentStore_sumBehind_12 : decode prog_1_method_29_code 12 = .ok (.iload_n 3, 1) := by decide +kernel
theorem d_ContentStore_sumBehind_13 : decode prog_1_method_29_code 13 = .ok (.iaload, 1) := by decide +kernel
theorem d_ContentStore_sumBehind_14 : decode prog_1_method_29_code 14 = .ok (.ixor, 1) := by decide +kernel
theorem d_ContentStore_sumBehind_15 : decode prog_1_method_29_code 15 = .ok (.istore 4, 2) := by decide +kernel
theorem d_ContentStore_sumBehind_17 : decode prog_1_method_29_code 17 = .ok (.iload 4, 2) := by decide +kernel
theorem d_ContentStore_sumBehind_19 : decode prog_1_method_29_code 19 = .ok (.iconst 5, 1) := by decide +kernel
theorem d_ContentStore_sumBehind_20 : decode prog_1_method_29_code 20 = .ok (.ishl, 1) := by decide +kernel
theorem d_ContentStore_sumBehind_21 : decode prog_1_method_29_code 21 = .ok (.iload 4, 2) := by decide +kernel
theorem d_ContentStore_sumBehind_23 : decode prog_1_method_29_code 23 = .ok (.bipush 27, 2) := by decide +kernel
theorem d_ContentStore_sumBehind_25 : decode prog_1_method_29_code 25 = .ok (.iushr, 1) := by decide +kernel
theorem d_ContentStore_sumBehind_26 : decode prog_1_method_29_code 26 = .ok (.ior, 1) := by decide +kernel
theorem d_ContentStore_sumBehind_27 : decode prog_1_method_29_code 27 = .ok (.ldc 189, 2) := by decide +kernel
theorem d_ContentStore_sumBehind_29 : decode prog_1_method_29_code 29 = .ok (.imul, 1) := by decide +kernel
theorem d_ContentStore_sumBehind_30 : decode prog_1_method_29_code 30 = .ok (.istore_n 2, 1) := by decide +kernel
theorem d_ContentStore_sumBehind_31 : decode prog_1_method_29_code 31 = .ok (.iinc 3 1, 3) := by decide +kernel
theorem d_ContentStore_sumBehind_34 : decode prog_1_method_29_code 34 = .ok (.goto (-30), 3) := by decide +kernel
theorem d_ContentStore_sumBehind_37 : decode prog_1_method_29_code 37 = .ok (.iload_n 2, 1) := by decide +kernel
theorem d_ContentStore_sumBehind_38 : decode prog_1_method_29_code 38 = .ok (.ireturn, 1) := by decide +kernel
theorem d_ContentStore_newBlobWith_0 : decode prog_1_method_23_code 0 = .ok (.aload_n 0, 1) := by decide +kernel
theorem d_ContentStore_newBlobWith_1 : decode prog_1_method_23_code 1 = .ok (.getfield 139, 3) := by decide +kernel
theorem d_ContentStore_newBlobWith_4 : decode prog_1_method_23_code 4 = .ok (.aload_n 0, 1) := by decide +kernel
theorem d_ContentStore_newBlobWith_5 : decode prog_1_method_23_code 5 = .ok (.getfield 35, 3) := by decide +kernel
theorem d_ContentStore_newBlobWith_8 : decode prog_1_method_23_code 8 = .ok (.arraylength, 1) := by decide +kernel
theorem d_ContentStore_newBlobWith_9 : decode prog_1_method_23_code 9 = .ok (.if_icmp .ge 14, 3) := by decide +kernel
theorem d_ContentStore_newBlobWith_12 : decode prog_1_method_23_code 12 = .ok (.aload_n 0, 1) := by decide +kernel
theorem d_ContentStore_newBlobWith_13 : decode prog_1_method_23_code 13 = .ok (.getfield 23, 3) := by decide +kernel
theorem d_ContentStore_newBlobWith_16 : decode prog_1_method_23_code 16 = .ok (.aload_n 1, 1) := by decide +kernel
theorem d_ContentStore_newBlobWith_17 : decode prog_1_method_23_code 17 = .ok (.invokevirtual 123, 3) := by decide +kernel
theorem d_ContentStore_newBlobWith_20 : decode prog_1_method_23_code 20 = .ok (.ifCond .ne 6, 3) := by decide +kernel
theorem d_ContentStore_newBlobWith_23 : decode prog_1_method_23_code 23 = .ok (.bipush (-3), 2) := by decide +kernel
theorem d_ContentStore_newBlobWith_25 : decode prog_1_method_23_code 25 = .ok (.ireturn, 1) := by decide +kernel
theorem d_ContentStore_newBlobWith_26 : decode prog_1_method_23_code 26 = .ok (.aload_n 0, 1) := by decide +kernel
theorem d_ContentStore_newBlobWith_27 : decode prog_1_method_23_code 27 = .ok (.getfield 139, 3) := by decide +kernel
theorem d_ContentStore_newBlobWith_30 : decode prog_1_method_23_code 30 = .ok (.istore_n 2, 1) := by decide +kernel
theorem d_ContentStore_newBlobWith_31 : decode prog_1_method_23_code 31 = .ok (.aload_n 0, 1) := by decide +kernel
theorem d_ContentStore_newBlobWith_32 : decode prog_1_method_23_code 32 = .ok (.getfield 35, 3) := by decide +kernel
theorem d_ContentStore_newBlobWith_35 : decode prog_1_method_23_code 35 = .ok (.iload_n 2, 1) := by decide +kernel
theorem d_ContentStore_newBlobWith_36 : decode prog_1_method_23_code 36 = .ok (.new 33, 3) := by decide +kernel
theorem d_ContentStore_newBlobWith_39 : decode prog_1_method_23_code 39 = .ok (.dup, 1) := by decide +kernel
theorem d_ContentStore_newBlobWith_40 : decode prog_1_method_23_code 40 = .ok (.aload_n 1, 1) := by decide +kernel
theorem d_ContentStore_newBlobWith_41 : decode prog_1_method_23_code 41 = .ok (.aload_n 0, 1) := by decide +kernel
theorem d_ContentStore_newBlobWith_42 : decode prog_1_method_23_code 42 = .ok (.getfield 23, 3) := by decide +kernel
theorem d_ContentStore_newBlobWith_45 : decode prog_1_method_23_code 45 = .ok (.aload_n 1, 1) := by decide +kernel
theorem d_ContentStore_newBlobWith_46 : decode prog_1_method_23_code 46 = .ok (.iconst 0, 1) := by decide +kernel
theorem d_ContentStore_newBlobWith_47 : decode prog_1_method_23_code 47 = .ok (.anewarray 105, 3) := by decide +kernel
theorem d_ContentStore_newBlobWith_50 : decode prog_1_method_23_code 50 = .ok (.invokevirtual 131, 3) := by decide +kernel
theorem d_ContentStore_newBlobWith_53 : decode prog_1_method_23_code 53 = .ok (.invokespecial 182, 3) := by decide +kernel
theorem d_ContentStore_newBlobWith_56 : decode prog_1_method_23_code 56 = .ok (.aastore, 1) := by decide +kernel
theorem d_ContentStore_newBlobWith_57 : decode prog_1_method_23_code 57 = .ok (.aload_n 0, 1) := by decide +kernel
theorem d_ContentStore_newBlobWith_58 : decode prog_1_method_23_code 58 = .ok (.dup, 1) := by decide +kernel
theorem d_ContentStore_newBlobWith_59 : decode prog_1_method_23_code 59 = .ok (.getfield 139, 3) := by decide +kernel
theorem d_ContentStore_newBlobWith_62 : decode prog_1_method_23_code 62 = .ok (.iconst 1, 1) := by decide +kernel
theorem d_ContentStore_newBlobWith_63 : decode prog_1_method_23_code 63 = .ok (.iadd, 1) := by decide +kernel
theorem d_ContentStore_newBlobWith_64 : decode prog_1_method_23_code 64 = .ok (.putfield 139, 3) := by decide +kernel
theorem d_ContentStore_newBlobWith_67 : decode prog_1_method_23_code 67 = .ok (.iload_n 2, 1) := by decide +kernel
theorem d_ContentStore_newBlobWith_68 : decode prog_1_method_23_code 68 = .ok (.ireturn, 1) := by decide +kernel
theorem d_Shelf_hasRoomFor_0 : decode prog_5_method_2_code 0 = .ok (.iconst 0, 1) := by decide +kernel
theorem d_Shelf_hasRoomFor_1 : decode prog_5_method_2_code 1 = .ok (.istore_n 2, 1) := by decide +kernel
theorem d_Shelf_hasRoomFor_2 : decode prog_5_method_2_code 2 = .ok (.iconst 0, 1) := by decide +kernel
theorem d_Shelf_hasRoomFor_3 : decode prog_5_method_2_code 3 = .ok (.istore_n 3, 1) := by decide +kernel
theorem d_Shelf_hasRoomFor_4 : decode prog_5_method_2_code 4 = .ok (.iload_n 3, 1) := by decide +kernel
theorem d_Shelf_hasRoomFor_5 : decode prog_5_method_2_code 5 = .ok (.aload_n 1, 1) := by decide +kernel
theorem d_Shelf_hasRoomFor_6 : decode prog_5_method_2_code 6 = .ok (.arraylength, 1) := by decide +kernel
theorem d_Shelf_hasRoomFor_7 : decode prog_5_method_2_code 7 = .ok (.if_icmp .ge 35, 3) := by decide +kernel
theorem d_Shelf_hasRoomFor_10 : decode prog_5_method_2_code 10 = .ok (.aload_n 0, 1) := by decide +kernel
theorem d_Shelf_hasRoomFor_11 : decode prog_5_method_2_code 11 = .ok (.aload_n 1, 1) := by decide +kernel
theorem d_Shelf_hasRoomFor_12 : decode prog_5_method_2_code 12 = .ok (.iload_n 3, 1) := by decide +kernel
theorem d_Shelf_hasRoomFor_13 : decode prog_5_method_2_code 13 = .ok (.invokevirtual 22, 3) := by decide +kernel
theorem d_Shelf_hasRoomFor_16 : decode prog_5_method_2_code 16 = .ok (.ifnonnull 20, 3) := by decide +kernel
theorem d_Shelf_hasRoomFor_19 : decode prog_5_method_2_code 19 = .ok (.aload_n 0, 1) := by decide +kernel
theorem d_Shelf_hasRoomFor_20 : decode prog_5_method_2_code 20 = .ok (.aload_n 1, 1) := by decide +kernel
theorem d_Shelf_hasRoomFor_21 : decode prog_5_method_2_code 21 = .ok (.iload_n 3, 1) := by decide +kernel
theorem d_Shelf_hasRoomFor_22 : decode prog_5_method_2_code 22 = .ok (.invokevirtual 26, 3) := by decide +kernel
theorem d_Shelf_hasRoomFor_25 : decode prog_5_method_2_code 25 = .ok (.ifCond .ne 11, 3) := by decide +kernel
theorem d_Shelf_hasRoomFor_28 : decode prog_5_method_2_code 28 = .ok (.iload_n 2, 1) := by decide +kernel
theorem d_Shelf_hasRoomFor_29 : decode prog_5_method_2_code 29 = .ok (.aload_n 1, 1) := by decide +kernel
theorem d_Shelf_hasRoomFor_30 : decode prog_5_method_2_code 30 = .ok (.iload_n 3, 1) := by decide +kernel
theorem d_Shelf_hasRoomFor_31 : decode prog_5_method_2_code 31 = .ok (.invokestatic 30, 3) := by decide +kernel
theorem d_Shelf_hasRoomFor_34 : decode prog_5_method_2_code 34 = .ok (.iadd, 1) := by decide +kernel
theorem d_Shelf_hasRoomFor_35 : decode prog_5_method_2_code 35 = .ok (.istore_n 2, 1) := by decide +kernel
theorem d_Shelf_hasRoomFor_36 : decode prog_5_method_2_code 36 = .ok (.iinc 3 16, 3) := by decide +kernel
theorem d_Shelf_hasRoomFor_39 : decode prog_5_method_2_code 39 = .ok (.goto (-35), 3) := by decide +kernel
theorem d_Shelf_hasRoomFor_42 : decode prog_5_method_2_code 42 = .ok (.iload_n 2, 1) := by decide +kernel
theorem d_Shelf_hasRoomFor_43 : decode prog_5_method_2_code 43 = .ok (.aload_n 0, 1) := by decide +kernel
theorem d_Shelf_hasRoomFor_44 : decode prog_5_method_2_code 44 = .ok (.getfield 9, 3) := by decide +kernel
theorem d_Shelf_hasRoomFor_47 : decode prog_5_method_2_code 47 = .ok (.aload_n 0, 1) := by decide +kernel
theorem d_Shelf_hasRoomFor_48 : decode prog_5_method_2_code 48 = .ok (.getfield 34, 3) := by decide +kernel
theorem d_Shelf_hasRoomFor_51 : decode prog_5_method_2_code 51 = .ok (.isub, 1) := by decide +kernel
theorem d_Shelf_hasRoomFor_52 : decode prog_5_method_2_code 52 = .ok (.if_icmp .gt 7, 3) := by decide +kernel
theorem d_Shelf_hasRoomFor_55 : decode prog_5_method_2_code 55 = .ok (.iconst 1, 1) := by decide +kernel
theorem d_Shelf_hasRoomFor_56 : decode prog_5_method_2_code 56 = .ok (.goto 4, 3) := by decide +kernel
theorem d_Shelf_hasRoomFor_59 : decode prog_5_method_2_code 59 = .ok (.iconst 0, 1) := by decide +kernel
theorem d_Shelf_hasRoomFor_60 : decode prog_5_method_2_code 60 = .ok (.ireturn, 1) := by decide +kernel
theorem d_Shelf_found_0 : decode prog_5_method_6_code 0 = .ok (.iconst 0, 1) := by decide +kernel
theorem d_Shelf_found_1 : decode prog_5_method_6_code 1 = .ok (.istore_n 3, 1) := by decide +kernel
theorem d_Shelf_found_2 : decode prog_5_method_6_code 2 = .ok (.iload_n 3, 1) := by decide +kernel
theorem d_Shelf_found_3 : decode prog_5_method_6_code 3 = .ok (.aload_n 0, 1) := by decide +kernel
theorem d_Shelf_found_4 : decode prog_5_method_6_code 4 = .ok (.getfield 18, 3) := by decide +kernel
theorem d_Shelf_found_7 : decode prog_5_method_6_code 7 = .ok (.invokevirtual 64, 3) := by decide +kernel
theorem d_Shelf_found_10 : decode prog_5_method_6_code 10 = .ok (.if_icmp .ge 39, 3) := by decide +kernel
theorem d_Shelf_found_13 : decode prog_5_method_6_code 13 = .ok (.aload_n 0, 1) := by decide +kernel
theorem d_Shelf_found_14 : decode prog_5_method_6_code 14 = .ok (.getfield 18, 3) := by decide +kernel
theorem d_Shelf_found_17 : decode prog_5_method_6_code 17 = .ok (.iload_n 3, 1) := by decide +kernel
theorem d_Shelf_found_18 : decode prog_5_method_6_code 18 = .ok (.invokevirtual 68, 3) := by decide +kernel
theorem d_Shelf_found_21 : decode prog_5_method_6_code 21 = .ok (.checkcast 37, 3) := by decide +kernel
theorem d_Shelf_found_24 : decode prog_5_method_6_code 24 = .ok (.astore 4, 2) := by decide +kernel
theorem d_Shelf_found_26 : decode prog_5_method_6_code 26 = .ok (.aload 4, 2) := by decide +kernel
theorem d_Shelf_found_28 : decode prog_5_method_6_code 28 = .ok (.getfield 39, 3) := by decide +kernel
theorem d_Shelf_found_31 : decode prog_5_method_6_code 31 = .ok (.iconst 0, 1) := by decide +kernel
theorem d_Shelf_found_32 : decode prog_5_method_6_code 32 = .ok (.aload_n 1, 1) := by decide +kernel
theorem d_Shelf_found_33 : decode prog_5_method_6_code 33 = .ok (.iload_n 2, 1) := by decide +kernel
theorem d_Shelf_found_34 : decode prog_5_method_6_code 34 = .ok (.invokestatic 43, 3) := by decide +kernel
theorem d_Shelf_found_37 : decode prog_5_method_6_code 37 = .ok (.ifCond .eq 6, 3) := by decide +kernel
theorem d_Shelf_found_40 : decode prog_5_method_6_code 40 = .ok (.aload 4, 2) := by decide +kernel
theorem d_Shelf_found_42 : decode prog_5_method_6_code 42 = .ok (.areturn, 1) := by decide +kernel
theorem d_Shelf_found_43 : decode prog_5_method_6_code 43 = .ok (.iinc 3 1, 3) := by decide +kernel
theorem d_Shelf_found_46 : decode prog_5_method_6_code 46 = .ok (.goto (-44), 3) := by decide +kernel
theorem d_Shelf_found_49 : decode prog_5_method_6_code 49 = .ok (.aconst_null, 1) := by decide +kernel
theorem d_Shelf_found_50 : decode prog_5_method_6_code 50 = .ok (.areturn, 1) := by decide +kernel
theorem d_ArrayList_size_0 : decode prog_15_method_8_code 0 = .ok (.aload_n 0, 1) := by decide +kernel
theorem d_ArrayList_size_1 : decode prog_15_method_8_code 1 = .ok (.getfield 48, 3) := by decide +kernel
theorem d_ArrayList_size_4 : decode prog_15_method_8_code 4 = .ok (.ireturn, 1) := by decide +kernel
theorem d_ArrayList_get_0 : decode prog_15_method_20_code 0 = .ok (.iload_n 1, 1) := by decide +kernel
theorem d_ArrayList_get_1 : decode prog_15_method_20_code 1 = .ok (.aload_n 0, 1) := by decide +kernel
theorem d_ArrayList_get_2 : decode prog_15_method_20_code 2 = .ok (.getfield 48, 3) := by decide +kernel
theorem d_ArrayList_get_5 : decode prog_15_method_20_code 5 = .ok (.invokestatic 118, 3) := by decide +kernel
theorem d_ArrayList_get_8 : decode prog_15_method_20_code 8 = .ok (.pop, 1) := by decide +kernel
theorem d_ArrayList_get_9 : decode prog_15_method_20_code 9 = .ok (.aload_n 0, 1) := by decide +kernel
theorem d_ArrayList_get_10 : decode prog_15_method_20_code 10 = .ok (.iload_n 1, 1) := by decide +kernel
theorem d_ArrayList_get_11 : decode prog_15_method_20_code 11 = .ok (.invokevirtual 123, 3) := by decide +kernel
theorem d_ArrayList_get_14 : decode prog_15_method_20_code 14 = .ok (.areturn, 1) := by decide +kernel
theorem d_Objects_checkIndex_0 : decode prog_19_method_17_code 0 = .ok (.iload_n 0, 1) := by decide +kernel
theorem d_Objects_checkIndex_1 : decode prog_19_method_17_code 1 = .ok (.iload_n 1, 1) := by decide +kernel
theorem d_Objects_checkIndex_2 : decode prog_19_method_17_code 2 = .ok (.aconst_null, 1) := by decide +kernel
theorem d_Objects_checkIndex_3 : decode prog_19_method_17_code 3 = .ok (.invokestatic 105, 3) := by decide +kernel
theorem d_Objects_checkIndex_6 : decode prog_19_method_17_code 6 = .ok (.ireturn, 1) := by decide +kernel
theorem d_Preconditions_checkIndex_0 : decode prog_23_method_11_code 0 = .ok (.iload_n 0, 1) := by decide +kernel
theorem d_Preconditions_checkIndex_1 : decode prog_23_method_11_code 1 = .ok (.ifCond .lt 8, 3) := by decide +kernel
theorem d_Preconditions_checkIndex_4 : decode prog_23_method_11_code 4 = .ok (.iload_n 0, 1) := by decide +kernel
theorem d_Preconditions_checkIndex_5 : decode prog_23_method_11_code 5 = .ok (.iload_n 1, 1) := by decide +kernel
theorem d_Preconditions_checkIndex_6 : decode prog_23_method_11_code 6 = .ok (.if_icmp .lt 10, 3) := by decide +kernel
theorem d_Preconditions_checkIndex_9 : decode prog_23_method_11_code 9 = .ok (.aload_n 2, 1) := by decide +kernel
theorem d_Preconditions_checkIndex_10 : decode prog_23_method_11_code 10 = .ok (.iload_n 0, 1) := by decide +kernel
theorem d_Preconditions_checkIndex_11 : decode prog_23_method_11_code 11 = .ok (.iload_n 1, 1) := by decide +kernel
theorem d_Preconditions_checkIndex_12 : decode prog_23_method_11_code 12 = .ok (.invokestatic 95, 3) := by decide +kernel
theorem d_Preconditions_checkIndex_15 : decode prog_23_method_11_code 15 = .ok (.athrow, 1) := by decide +kernel
theorem d_Preconditions_checkIndex_16 : decode prog_23_method_11_code 16 = .ok (.iload_n 0, 1) := by decide +kernel
theorem d_Preconditions_checkIndex_17 : decode prog_23_method_11_code 17 = .ok (.ireturn, 1) := by decide +kernel
theorem d_ArrayList_elementData_0 : decode prog_15_method_18_code 0 = .ok (.aload_n 0, 1) := by decide +kernel
theorem d_ArrayList_elementData_1 : decode prog_15_method_18_code 1 = .ok (.getfield 9, 3) := by decide +kernel
theorem d_ArrayList_elementData_4 : decode prog_15_method_18_code 4 = .ok (.iload_n 1, 1) := by decide +kernel
theorem d_ArrayList_elementData_5 : decode prog_15_method_18_code 5 = .ok (.aaload, 1) := by decide +kernel
theorem d_ArrayList_elementData_6 : decode prog_15_method_18_code 6 = .ok (.areturn, 1) := by decide +kernel
theorem d_Shelf_comesEarlier_0 : decode prog_5_method_7_code 0 = .ok (.iconst 0, 1) := by decide +kernel
theorem d_Shelf_comesEarlier_1 : decode prog_5_method_7_code 1 = .ok (.istore_n 3, 1) := by decide +kernel
theorem d_Shelf_comesEarlier_2 : decode prog_5_method_7_code 2 = .ok (.iload_n 3, 1) := by decide +kernel
theorem d_Shelf_comesEarlier_3 : decode prog_5_method_7_code 3 = .ok (.iload_n 2, 1) := by decide +kernel
theorem d_Shelf_comesEarlier_4 : decode prog_5_method_7_code 4 = .ok (.if_icmp .ge 21, 3) := by decide +kernel
theorem d_Shelf_comesEarlier_7 : decode prog_5_method_7_code 7 = .ok (.aload_n 1, 1) := by decide +kernel
theorem d_Shelf_comesEarlier_8 : decode prog_5_method_7_code 8 = .ok (.iload_n 3, 1) := by decide +kernel
theorem d_Shelf_comesEarlier_9 : decode prog_5_method_7_code 9 = .ok (.aload_n 1, 1) := by decide +kernel
theorem d_Shelf_comesEarlier_10 : decode prog_5_method_7_code 10 = .ok (.iload_n 2, 1) := by decide +kernel
theorem d_Shelf_comesEarlier_11 : decode prog_5_method_7_code 11 = .ok (.invokestatic 43, 3) := by decide +kernel
theorem d_Shelf_comesEarlier_14 : decode prog_5_method_7_code 14 = .ok (.ifCond .eq 5, 3) := by decide +kernel
theorem d_Shelf_comesEarlier_17 : decode prog_5_method_7_code 17 = .ok (.iconst 1, 1) := by decide +kernel
theorem d_Shelf_comesEarlier_18 : decode prog_5_method_7_code 18 = .ok (.ireturn, 1) := by decide +kernel
theorem d_Shelf_comesEarlier_19 : decode prog_5_method_7_code 19 = .ok (.iinc 3 16, 3) := by decide +kernel
theorem d_Shelf_comesEarlier_22 : decode prog_5_method_7_code 22 = .ok (.goto (-20), 3) := by decide +kernel
theorem d_Shelf_comesEarlier_25 : decode prog_5_method_7_code 25 = .ok (.iconst 0, 1) := by decide +kernel
theorem d_Shelf_comesEarlier_26 : decode prog_5_method_7_code 26 = .ok (.ireturn, 1) := by decide +kernel
theorem d_Shelf_rowOf_0 : decode prog_5_method_3_code 0 = .ok (.aload_n 1, 1) := by decide +kernel
theorem d_Shelf_rowOf_1 : decode prog_5_method_3_code 1 = .ok (.arraylength, 1) := by decide +kernel
theorem d_Shelf_rowOf_2 : decode prog_5_method_3_code 2 = .ok (.bipush 16, 2) := by decide +kernel
theorem d_Shelf_rowOf_4 : decode prog_5_method_3_code 4 = .ok (.iadd, 1) := by decide +kernel
theorem d_Shelf_rowOf_5 : decode prog_5_method_3_code 5 = .ok (.iconst 1, 1) := by decide +kernel
theorem d_Shelf_rowOf_6 : decode prog_5_method_3_code 6 = .ok (.isub, 1) := by decide +kernel
theorem d_Shelf_rowOf_7 : decode prog_5_method_3_code 7 = .ok (.bipush 16, 2) := by decide +kernel
theorem d_Shelf_rowOf_9 : decode prog_5_method_3_code 9 = .ok (.idiv, 1) := by decide +kernel
theorem d_Shelf_rowOf_10 : decode prog_5_method_3_code 10 = .ok (.anewarray 37, 3) := by decide +kernel
theorem d_Shelf_rowOf_13 : decode prog_5_method_3_code 13 = .ok (.astore_n 3, 1) := by decide +kernel
theorem d_Shelf_rowOf_14 : decode prog_5_method_3_code 14 = .ok (.iconst 0, 1) := by decide +kernel
theorem d_Shelf_rowOf_15 : decode prog_5_method_3_code 15 = .ok (.istore 4, 2) := by decide +kernel
theorem d_Shelf_rowOf_17 : decode prog_5_method_3_code 17 = .ok (.iload 4, 2) := by decide +kernel
theorem d_Shelf_rowOf_19 : decode prog_5_method_3_code 19 = .ok (.aload_n 3, 1) := by decide +kernel
theorem d_Shelf_rowOf_20 : decode prog_5_method_3_code 20 = .ok (.arraylength, 1) := by decide +kernel
theorem d_Shelf_rowOf_21 : decode prog_5_method_3_code 21 = .ok (.if_icmp .ge 93, 3) := by decide +kernel
theorem d_Shelf_rowOf_24 : decode prog_5_method_3_code 24 = .ok (.iload 4, 2) := by decide +kernel
theorem d_Shelf_rowOf_26 : decode prog_5_method_3_code 26 = .ok (.bipush 16, 2) := by decide +kernel
theorem d_Shelf_rowOf_28 : decode prog_5_method_3_code 28 = .ok (.imul, 1) := by decide +kernel
theorem d_Shelf_rowOf_29 : decode prog_5_method_3_code 29 = .ok (.istore 5, 2) := by decide +kernel
theorem d_Shelf_rowOf_31 : decode prog_5_method_3_code 31 = .ok (.iload 4, 2) := by decide +kernel
theorem d_Shelf_rowOf_33 : decode prog_5_method_3_code 33 = .ok (.aload_n 2, 1) := by decide +kernel
theorem d_Shelf_rowOf_34 : decode prog_5_method_3_code 34 = .ok (.arraylength, 1) := by decide +kernel
theorem d_Shelf_rowOf_35 : decode prog_5_method_3_code 35 = .ok (.if_icmp .ge 10, 3) := by decide +kernel
theorem d_Shelf_rowOf_38 : decode prog_5_method_3_code 38 = .ok (.aload_n 2, 1) := by decide +kernel
theorem d_Shelf_rowOf_39 : decode prog_5_method_3_code 39 = .ok (.iload 4, 2) := by decide +kernel
theorem d_Shelf_rowOf_41 : decode prog_5_method_3_code 41 = .ok (.aaload, 1) := by decide +kernel
theorem d_Shelf_rowOf_42 : decode prog_5_method_3_code 42 = .ok (.goto 4, 3) := by decide +kernel
theorem d_Shelf_rowOf_45 : decode prog_5_method_3_code 45 = .ok (.aconst_null, 1) := by decide +kernel
theorem d_Shelf_rowOf_46 : decode prog_5_method_3_code 46 = .ok (.astore 6, 2) := by decide +kernel
theorem d_Shelf_rowOf_48 : decode prog_5_method_3_code 48 = .ok (.aload 6, 2) := by decide +kernel
theorem d_Shelf_rowOf_50 : decode prog_5_method_3_code 50 = .ok (.ifnull 18, 3) := by decide +kernel
theorem d_Shelf_rowOf_53 : decode prog_5_method_3_code 53 = .ok (.aload 6, 2) := by decide +kernel
theorem d_Shelf_rowOf_55 : decode prog_5_method_3_code 55 = .ok (.getfield 39, 3) := by decide +kernel
theorem d_Shelf_rowOf_58 : decode prog_5_method_3_code 58 = .ok (.iconst 0, 1) := by decide +kernel
theorem d_Shelf_rowOf_59 : decode prog_5_method_3_code 59 = .ok (.aload_n 1, 1) := by decide +kernel
theorem d_Shelf_rowOf_60 : decode prog_5_method_3_code 60 = .ok (.iload 5, 2) := by decide +kernel
theorem d_Shelf_rowOf_62 : decode prog_5_method_3_code 62 = .ok (.invokestatic 43, 3) := by decide +kernel
theorem d_Shelf_rowOf_65 : decode prog_5_method_3_code 65 = .ok (.ifCond .ne 12, 3) := by decide +kernel
theorem d_Shelf_rowOf_68 : decode prog_5_method_3_code 68 = .ok (.aload_n 0, 1) := by decide +kernel
theorem d_Shelf_rowOf_69 : decode prog_5_method_3_code 69 = .ok (.aload_n 1, 1) := by decide +kernel
theorem d_Shelf_rowOf_70 : decode prog_5_method_3_code 70 = .ok (.iload 5, 2) := by decide +kernel
theorem d_Shelf_rowOf_72 : decode prog_5_method_3_code 72 = .ok (.invokevirtual 22, 3) := by decide +kernel
theorem d_Shelf_rowOf_75 : decode prog_5_method_3_code 75 = .ok (.astore 6, 2) := by decide +kernel
theorem d_Shelf_rowOf_77 : decode prog_5_method_3_code 77 = .ok (.aload 6, 2) := by decide +kernel
theorem d_Shelf_rowOf_79 : decode prog_5_method_3_code 79 = .ok (.ifnonnull 12, 3) := by decide +kernel
theorem d_Shelf_rowOf_82 : decode prog_5_method_3_code 82 = .ok (.aload_n 0, 1) := by decide +kernel
theorem d_Shelf_rowOf_83 : decode prog_5_method_3_code 83 = .ok (.aload_n 1, 1) := by decide +kernel
theorem d_Shelf_rowOf_84 : decode prog_5_method_3_code 84 = .ok (.iload 5, 2) := by decide +kernel
theorem d_Shelf_rowOf_86 : decode prog_5_method_3_code 86 = .ok (.invokevirtual 47, 3) := by decide +kernel
theorem d_Shelf_rowOf_89 : decode prog_5_method_3_code 89 = .ok (.astore 6, 2) := by decide +kernel
theorem d_Shelf_rowOf_91 : decode prog_5_method_3_code 91 = .ok (.aload 6, 2) := by decide +kernel
theorem d_Shelf_rowOf_93 : decode prog_5_method_3_code 93 = .ok (.dup, 1) := by decide +kernel
theorem d_Shelf_rowOf_94 : decode prog_5_method_3_code 94 = .ok (.getfield 50, 3) := by decide +kernel
theorem d_Shelf_rowOf_97 : decode prog_5_method_3_code 97 = .ok (.iconst 1, 1) := by decide +kernel
theorem d_Shelf_rowOf_98 : decode prog_5_method_3_code 98 = .ok (.iadd, 1) := by decide +kernel
theorem d_Shelf_rowOf_99 : decode prog_5_method_3_code 99 = .ok (.putfield 50, 3) := by decide +kernel
theorem d_Shelf_rowOf_102 : decode prog_5_method_3_code 102 = .ok (.aload_n 3, 1) := by decide +kernel
theorem d_Shelf_rowOf_103 : decode prog_5_method_3_code 103 = .ok (.iload 4, 2) := by decide +kernel
theorem d_Shelf_rowOf_105 : decode prog_5_method_3_code 105 = .ok (.aload 6, 2) := by decide +kernel
theorem d_Shelf_rowOf_107 : decode prog_5_method_3_code 107 = .ok (.aastore, 1) := by decide +kernel
theorem d_Shelf_rowOf_108 : decode prog_5_method_3_code 108 = .ok (.iinc 4 1, 3) := by decide +kernel
theorem d_Shelf_rowOf_111 : decode prog_5_method_3_code 111 = .ok (.goto (-94), 3) := by decide +kernel
theorem d_Shelf_rowOf_114 : decode prog_5_method_3_code 114 = .ok (.aload_n 3, 1) := by decide +kernel
theorem d_Shelf_rowOf_115 : decode prog_5_method_3_code 115 = .ok (.areturn, 1) := by decide +kernel
theorem d_Shelf_made_0 : decode prog_5_method_5_code 0 = .ok (.new 37, 3) := by decide +kernel
theorem d_Shelf_made_3 : decode prog_5_method_5_code 3 = .ok (.dup, 1) := by decide +kernel
theorem d_Shelf_made_4 : decode prog_5_method_5_code 4 = .ok (.aload_n 1, 1) := by decide +kernel
theorem d_Shelf_made_5 : decode prog_5_method_5_code 5 = .ok (.iload_n 2, 1) := by decide +kernel
theorem d_Shelf_made_6 : decode prog_5_method_5_code 6 = .ok (.invokespecial 57, 3) := by decide +kernel
theorem d_Shelf_made_9 : decode prog_5_method_5_code 9 = .ok (.astore_n 3, 1) := by decide +kernel
theorem d_Shelf_made_10 : decode prog_5_method_5_code 10 = .ok (.aload_n 0, 1) := by decide +kernel
theorem d_Shelf_made_11 : decode prog_5_method_5_code 11 = .ok (.getfield 18, 3) := by decide +kernel
theorem d_Shelf_made_14 : decode prog_5_method_5_code 14 = .ok (.aload_n 3, 1) := by decide +kernel
theorem d_Shelf_made_15 : decode prog_5_method_5_code 15 = .ok (.invokevirtual 60, 3) := by decide +kernel
theorem d_Shelf_made_18 : decode prog_5_method_5_code 18 = .ok (.pop, 1) := by decide +kernel
theorem d_Shelf_made_19 : decode prog_5_method_5_code 19 = .ok (.aload_n 0, 1) := by decide +kernel
theorem d_Shelf_made_20 : decode prog_5_method_5_code 20 = .ok (.dup, 1) := by decide +kernel
theorem d_Shelf_made_21 : decode prog_5_method_5_code 21 = .ok (.getfield 34, 3) := by decide +kernel
