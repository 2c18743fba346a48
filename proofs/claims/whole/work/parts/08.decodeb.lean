theorem d_Shelf_made_24 : decode prog_5_method_5_code 24 = .ok (.aload_n 3, 1) := by decide +kernel
theorem d_Shelf_made_25 : decode prog_5_method_5_code 25 = .ok (.getfield 39, 3) := by decide +kernel
theorem d_Shelf_made_28 : decode prog_5_method_5_code 28 = .ok (.arraylength, 1) := by decide +kernel
theorem d_Shelf_made_29 : decode prog_5_method_5_code 29 = .ok (.iadd, 1) := by decide +kernel
theorem d_Shelf_made_30 : decode prog_5_method_5_code 30 = .ok (.putfield 34, 3) := by decide +kernel
theorem d_Shelf_made_33 : decode prog_5_method_5_code 33 = .ok (.aload_n 3, 1) := by decide +kernel
theorem d_Shelf_made_34 : decode prog_5_method_5_code 34 = .ok (.areturn, 1) := by decide +kernel
theorem d_Part_init_0 : decode prog_3_method_1_code 0 = .ok (.aload_n 0, 1) := by decide +kernel
theorem d_Part_init_1 : decode prog_3_method_1_code 1 = .ok (.invokespecial 3, 3) := by decide +kernel
theorem d_Part_init_4 : decode prog_3_method_1_code 4 = .ok (.aload_n 1, 1) := by decide +kernel
theorem d_Part_init_5 : decode prog_3_method_1_code 5 = .ok (.iload_n 2, 1) := by decide +kernel
theorem d_Part_init_6 : decode prog_3_method_1_code 6 = .ok (.invokestatic 9, 3) := by decide +kernel
theorem d_Part_init_9 : decode prog_3_method_1_code 9 = .ok (.istore_n 3, 1) := by decide +kernel
theorem d_Part_init_10 : decode prog_3_method_1_code 10 = .ok (.aload_n 0, 1) := by decide +kernel
theorem d_Part_init_11 : decode prog_3_method_1_code 11 = .ok (.iload_n 3, 1) := by decide +kernel
theorem d_Part_init_12 : decode prog_3_method_1_code 12 = .ok (.newarray .int, 2) := by decide +kernel
theorem d_Part_init_14 : decode prog_3_method_1_code 14 = .ok (.putfield 13, 3) := by decide +kernel
theorem d_Part_init_17 : decode prog_3_method_1_code 17 = .ok (.iconst 0, 1) := by decide +kernel
theorem d_Part_init_18 : decode prog_3_method_1_code 18 = .ok (.istore 4, 2) := by decide +kernel
theorem d_Part_init_20 : decode prog_3_method_1_code 20 = .ok (.iload 4, 2) := by decide +kernel
theorem d_Part_init_22 : decode prog_3_method_1_code 22 = .ok (.iload_n 3, 1) := by decide +kernel
theorem d_Part_init_23 : decode prog_3_method_1_code 23 = .ok (.if_icmp .ge 22, 3) := by decide +kernel
theorem d_Part_init_26 : decode prog_3_method_1_code 26 = .ok (.aload_n 0, 1) := by decide +kernel
theorem d_Part_init_27 : decode prog_3_method_1_code 27 = .ok (.getfield 13, 3) := by decide +kernel
theorem d_Part_init_30 : decode prog_3_method_1_code 30 = .ok (.iload 4, 2) := by decide +kernel
theorem d_Part_init_32 : decode prog_3_method_1_code 32 = .ok (.aload_n 1, 1) := by decide +kernel
theorem d_Part_init_33 : decode prog_3_method_1_code 33 = .ok (.iload_n 2, 1) := by decide +kernel
theorem d_Part_init_34 : decode prog_3_method_1_code 34 = .ok (.iload 4, 2) := by decide +kernel
theorem d_Part_init_36 : decode prog_3_method_1_code 36 = .ok (.iadd, 1) := by decide +kernel
theorem d_Part_init_37 : decode prog_3_method_1_code 37 = .ok (.iaload, 1) := by decide +kernel
theorem d_Part_init_38 : decode prog_3_method_1_code 38 = .ok (.iastore, 1) := by decide +kernel
theorem d_Part_init_39 : decode prog_3_method_1_code 39 = .ok (.iinc 4 1, 3) := by decide +kernel
theorem d_Part_init_42 : decode prog_3_method_1_code 42 = .ok (.goto (-22), 3) := by decide +kernel
theorem d_Part_init_45 : decode prog_3_method_1_code 45 = .ok (.return_, 1) := by decide +kernel
theorem d_ArrayList_add_0 : decode prog_15_method_25_code 0 = .ok (.aload_n 0, 1) := by decide +kernel
theorem d_ArrayList_add_1 : decode prog_15_method_25_code 1 = .ok (.dup, 1) := by decide +kernel
theorem d_ArrayList_add_2 : decode prog_15_method_25_code 2 = .ok (.getfield 63, 3) := by decide +kernel
theorem d_ArrayList_add_5 : decode prog_15_method_25_code 5 = .ok (.iconst 1, 1) := by decide +kernel
theorem d_ArrayList_add_6 : decode prog_15_method_25_code 6 = .ok (.iadd, 1) := by decide +kernel
theorem d_ArrayList_add_7 : decode prog_15_method_25_code 7 = .ok (.putfield 63, 3) := by decide +kernel
theorem d_ArrayList_add_10 : decode prog_15_method_25_code 10 = .ok (.aload_n 0, 1) := by decide +kernel
theorem d_ArrayList_add_11 : decode prog_15_method_25_code 11 = .ok (.aload_n 1, 1) := by decide +kernel
theorem d_ArrayList_add_12 : decode prog_15_method_25_code 12 = .ok (.aload_n 0, 1) := by decide +kernel
theorem d_ArrayList_add_13 : decode prog_15_method_25_code 13 = .ok (.getfield 9, 3) := by decide +kernel
theorem d_ArrayList_add_16 : decode prog_15_method_25_code 16 = .ok (.aload_n 0, 1) := by decide +kernel
theorem d_ArrayList_add_17 : decode prog_15_method_25_code 17 = .ok (.getfield 48, 3) := by decide +kernel
theorem d_ArrayList_add_20 : decode prog_15_method_25_code 20 = .ok (.invokevirtual 131, 3) := by decide +kernel
theorem d_ArrayList_add_23 : decode prog_15_method_25_code 23 = .ok (.iconst 1, 1) := by decide +kernel
theorem d_ArrayList_add_24 : decode prog_15_method_25_code 24 = .ok (.ireturn, 1) := by decide +kernel
theorem d_ArrayList_add2_0 : decode prog_15_method_24_code 0 = .ok (.iload_n 3, 1) := by decide +kernel
theorem d_ArrayList_add2_1 : decode prog_15_method_24_code 1 = .ok (.aload_n 2, 1) := by decide +kernel
theorem d_ArrayList_add2_2 : decode prog_15_method_24_code 2 = .ok (.arraylength, 1) := by decide +kernel
theorem d_ArrayList_add2_3 : decode prog_15_method_24_code 3 = .ok (.if_icmp .ne 8, 3) := by decide +kernel
theorem d_ArrayList_add2_6 : decode prog_15_method_24_code 6 = .ok (.aload_n 0, 1) := by decide +kernel
theorem d_ArrayList_add2_7 : decode prog_15_method_24_code 7 = .ok (.invokevirtual 129, 3) := by decide +kernel
theorem d_ArrayList_add2_10 : decode prog_15_method_24_code 10 = .ok (.astore_n 2, 1) := by decide +kernel
theorem d_ArrayList_add2_11 : decode prog_15_method_24_code 11 = .ok (.aload_n 2, 1) := by decide +kernel
theorem d_ArrayList_add2_12 : decode prog_15_method_24_code 12 = .ok (.iload_n 3, 1) := by decide +kernel
theorem d_ArrayList_add2_13 : decode prog_15_method_24_code 13 = .ok (.aload_n 1, 1) := by decide +kernel
theorem d_ArrayList_add2_14 : decode prog_15_method_24_code 14 = .ok (.aastore, 1) := by decide +kernel
theorem d_ArrayList_add2_15 : decode prog_15_method_24_code 15 = .ok (.aload_n 0, 1) := by decide +kernel
theorem d_ArrayList_add2_16 : decode prog_15_method_24_code 16 = .ok (.iload_n 3, 1) := by decide +kernel
theorem d_ArrayList_add2_17 : decode prog_15_method_24_code 17 = .ok (.iconst 1, 1) := by decide +kernel
theorem d_ArrayList_add2_18 : decode prog_15_method_24_code 18 = .ok (.iadd, 1) := by decide +kernel
theorem d_ArrayList_add2_19 : decode prog_15_method_24_code 19 = .ok (.putfield 48, 3) := by decide +kernel
theorem d_ArrayList_add2_22 : decode prog_15_method_24_code 22 = .ok (.return_, 1) := by decide +kernel
theorem d_ArrayList_grow_0 : decode prog_15_method_7_code 0 = .ok (.aload_n 0, 1) := by decide +kernel
theorem d_ArrayList_grow_1 : decode prog_15_method_7_code 1 = .ok (.aload_n 0, 1) := by decide +kernel
theorem d_ArrayList_grow_2 : decode prog_15_method_7_code 2 = .ok (.getfield 48, 3) := by decide +kernel
theorem d_ArrayList_grow_5 : decode prog_15_method_7_code 5 = .ok (.iconst 1, 1) := by decide +kernel
theorem d_ArrayList_grow_6 : decode prog_15_method_7_code 6 = .ok (.iadd, 1) := by decide +kernel
theorem d_ArrayList_grow_7 : decode prog_15_method_7_code 7 = .ok (.invokevirtual 69, 3) := by decide +kernel
theorem d_ArrayList_grow_10 : decode prog_15_method_7_code 10 = .ok (.areturn, 1) := by decide +kernel
theorem d_ArrayList_grow2_0 : decode prog_15_method_6_code 0 = .ok (.aload_n 0, 1) := by decide +kernel
theorem d_ArrayList_grow2_1 : decode prog_15_method_6_code 1 = .ok (.getfield 9, 3) := by decide +kernel
theorem d_ArrayList_grow2_4 : decode prog_15_method_6_code 4 = .ok (.arraylength, 1) := by decide +kernel
theorem d_ArrayList_grow2_5 : decode prog_15_method_6_code 5 = .ok (.istore_n 2, 1) := by decide +kernel
theorem d_ArrayList_grow2_6 : decode prog_15_method_6_code 6 = .ok (.iload_n 2, 1) := by decide +kernel
theorem d_ArrayList_grow2_7 : decode prog_15_method_6_code 7 = .ok (.ifCond .gt 13, 3) := by decide +kernel
theorem d_ArrayList_grow2_10 : decode prog_15_method_6_code 10 = .ok (.aload_n 0, 1) := by decide +kernel
theorem d_ArrayList_grow2_11 : decode prog_15_method_6_code 11 = .ok (.getfield 9, 3) := by decide +kernel
theorem d_ArrayList_grow2_14 : decode prog_15_method_6_code 14 = .ok (.getstatic 39, 3) := by decide +kernel
theorem d_ArrayList_grow2_17 : decode prog_15_method_6_code 17 = .ok (.if_acmp .eq 28, 3) := by decide +kernel
theorem d_ArrayList_grow2_20 : decode prog_15_method_6_code 20 = .ok (.iload_n 2, 1) := by decide +kernel
theorem d_ArrayList_grow2_21 : decode prog_15_method_6_code 21 = .ok (.iload_n 1, 1) := by decide +kernel
theorem d_ArrayList_grow2_22 : decode prog_15_method_6_code 22 = .ok (.iload_n 2, 1) := by decide +kernel
theorem d_ArrayList_grow2_23 : decode prog_15_method_6_code 23 = .ok (.isub, 1) := by decide +kernel
theorem d_ArrayList_grow2_24 : decode prog_15_method_6_code 24 = .ok (.iload_n 2, 1) := by decide +kernel
theorem d_ArrayList_grow2_25 : decode prog_15_method_6_code 25 = .ok (.iconst 1, 1) := by decide +kernel
theorem d_ArrayList_grow2_26 : decode prog_15_method_6_code 26 = .ok (.ishr, 1) := by decide +kernel
theorem d_ArrayList_grow2_27 : decode prog_15_method_6_code 27 = .ok (.invokestatic 73, 3) := by decide +kernel
theorem d_ArrayList_grow2_30 : decode prog_15_method_6_code 30 = .ok (.istore_n 3, 1) := by decide +kernel
theorem d_ArrayList_grow2_31 : decode prog_15_method_6_code 31 = .ok (.aload_n 0, 1) := by decide +kernel
theorem d_ArrayList_grow2_32 : decode prog_15_method_6_code 32 = .ok (.aload_n 0, 1) := by decide +kernel
theorem d_ArrayList_grow2_33 : decode prog_15_method_6_code 33 = .ok (.getfield 9, 3) := by decide +kernel
theorem d_ArrayList_grow2_36 : decode prog_15_method_6_code 36 = .ok (.iload_n 3, 1) := by decide +kernel
theorem d_ArrayList_grow2_37 : decode prog_15_method_6_code 37 = .ok (.invokestatic 66, 3) := by decide +kernel
theorem d_ArrayList_grow2_40 : decode prog_15_method_6_code 40 = .ok (.dup_x1, 1) := by decide +kernel
theorem d_ArrayList_grow2_41 : decode prog_15_method_6_code 41 = .ok (.putfield 9, 3) := by decide +kernel
theorem d_ArrayList_grow2_44 : decode prog_15_method_6_code 44 = .ok (.areturn, 1) := by decide +kernel
theorem d_ArrayList_grow2_45 : decode prog_15_method_6_code 45 = .ok (.aload_n 0, 1) := by decide +kernel
theorem d_ArrayList_grow2_46 : decode prog_15_method_6_code 46 = .ok (.bipush 10, 2) := by decide +kernel
theorem d_ArrayList_grow2_48 : decode prog_15_method_6_code 48 = .ok (.iload_n 1, 1) := by decide +kernel
theorem d_ArrayList_grow2_49 : decode prog_15_method_6_code 49 = .ok (.invokestatic 79, 3) := by decide +kernel
theorem d_ArrayList_grow2_52 : decode prog_15_method_6_code 52 = .ok (.anewarray 7, 3) := by decide +kernel
theorem d_ArrayList_grow2_55 : decode prog_15_method_6_code 55 = .ok (.dup_x1, 1) := by decide +kernel
theorem d_ArrayList_grow2_56 : decode prog_15_method_6_code 56 = .ok (.putfield 9, 3) := by decide +kernel
theorem d_ArrayList_grow2_59 : decode prog_15_method_6_code 59 = .ok (.areturn, 1) := by decide +kernel
theorem d_ArraysSupport_newLength_0 : decode prog_22_method_27_code 0 = .ok (.iload_n 0, 1) := by decide +kernel
theorem d_ArraysSupport_newLength_1 : decode prog_22_method_27_code 1 = .ok (.iload_n 1, 1) := by decide +kernel
theorem d_ArraysSupport_newLength_2 : decode prog_22_method_27_code 2 = .ok (.iload_n 2, 1) := by decide +kernel
theorem d_ArraysSupport_newLength_3 : decode prog_22_method_27_code 3 = .ok (.invokestatic 194, 3) := by decide +kernel
theorem d_ArraysSupport_newLength_6 : decode prog_22_method_27_code 6 = .ok (.iadd, 1) := by decide +kernel
theorem d_ArraysSupport_newLength_7 : decode prog_22_method_27_code 7 = .ok (.istore_n 3, 1) := by decide +kernel
theorem d_ArraysSupport_newLength_8 : decode prog_22_method_27_code 8 = .ok (.iconst 0, 1) := by decide +kernel
theorem d_ArraysSupport_newLength_9 : decode prog_22_method_27_code 9 = .ok (.iload_n 3, 1) := by decide +kernel
theorem d_ArraysSupport_newLength_10 : decode prog_22_method_27_code 10 = .ok (.if_icmp .ge 11, 3) := by decide +kernel
theorem d_ArraysSupport_newLength_13 : decode prog_22_method_27_code 13 = .ok (.iload_n 3, 1) := by decide +kernel
theorem d_ArraysSupport_newLength_14 : decode prog_22_method_27_code 14 = .ok (.ldc 200, 2) := by decide +kernel
theorem d_ArraysSupport_newLength_16 : decode prog_22_method_27_code 16 = .ok (.if_icmp .gt 5, 3) := by decide +kernel
theorem d_ArraysSupport_newLength_19 : decode prog_22_method_27_code 19 = .ok (.iload_n 3, 1) := by decide +kernel
theorem d_ArraysSupport_newLength_20 : decode prog_22_method_27_code 20 = .ok (.ireturn, 1) := by decide +kernel
theorem d_ArraysSupport_newLength_21 : decode prog_22_method_27_code 21 = .ok (.iload_n 0, 1) := by decide +kernel
theorem d_ArraysSupport_newLength_22 : decode prog_22_method_27_code 22 = .ok (.iload_n 1, 1) := by decide +kernel
theorem d_ArraysSupport_newLength_23 : decode prog_22_method_27_code 23 = .ok (.invokestatic 201, 3) := by decide +kernel
theorem d_ArraysSupport_newLength_26 : decode prog_22_method_27_code 26 = .ok (.ireturn, 1) := by decide +kernel
theorem d_ArraysSupport_hugeLength_0 : decode prog_22_method_28_code 0 = .ok (.iload_n 0, 1) := by decide +kernel
theorem d_ArraysSupport_hugeLength_1 : decode prog_22_method_28_code 1 = .ok (.iload_n 1, 1) := by decide +kernel
theorem d_ArraysSupport_hugeLength_2 : decode prog_22_method_28_code 2 = .ok (.iadd, 1) := by decide +kernel
theorem d_ArraysSupport_hugeLength_3 : decode prog_22_method_28_code 3 = .ok (.istore_n 2, 1) := by decide +kernel
theorem d_ArraysSupport_hugeLength_4 : decode prog_22_method_28_code 4 = .ok (.iload_n 2, 1) := by decide +kernel
theorem d_ArraysSupport_hugeLength_5 : decode prog_22_method_28_code 5 = .ok (.ifCond .ge 44, 3) := by decide +kernel
theorem d_ArraysSupport_hugeLength_8 : decode prog_22_method_28_code 8 = .ok (.new 204, 3) := by decide +kernel
theorem d_ArraysSupport_hugeLength_11 : decode prog_22_method_28_code 11 = .ok (.dup, 1) := by decide +kernel
theorem d_ArraysSupport_hugeLength_12 : decode prog_22_method_28_code 12 = .ok (.new 89, 3) := by decide +kernel
theorem d_ArraysSupport_hugeLength_15 : decode prog_22_method_28_code 15 = .ok (.dup, 1) := by decide +kernel
theorem d_ArraysSupport_hugeLength_16 : decode prog_22_method_28_code 16 = .ok (.invokespecial 91, 3) := by decide +kernel
theorem d_ArraysSupport_hugeLength_19 : decode prog_22_method_28_code 19 = .ok (.ldc 206, 2) := by decide +kernel
theorem d_ArraysSupport_hugeLength_21 : decode prog_22_method_28_code 21 = .ok (.invokevirtual 94, 3) := by decide +kernel
theorem d_ArraysSupport_hugeLength_24 : decode prog_22_method_28_code 24 = .ok (.iload_n 0, 1) := by decide +kernel
theorem d_ArraysSupport_hugeLength_25 : decode prog_22_method_28_code 25 = .ok (.invokevirtual 98, 3) := by decide +kernel
theorem d_ArraysSupport_hugeLength_28 : decode prog_22_method_28_code 28 = .ok (.ldc 208, 2) := by decide +kernel
theorem d_ArraysSupport_hugeLength_30 : decode prog_22_method_28_code 30 = .ok (.invokevirtual 94, 3) := by decide +kernel
theorem d_ArraysSupport_hugeLength_33 : decode prog_22_method_28_code 33 = .ok (.iload_n 1, 1) := by decide +kernel
theorem d_ArraysSupport_hugeLength_34 : decode prog_22_method_28_code 34 = .ok (.invokevirtual 98, 3) := by decide +kernel
theorem d_ArraysSupport_hugeLength_37 : decode prog_22_method_28_code 37 = .ok (.ldc 210, 2) := by decide +kernel
theorem d_ArraysSupport_hugeLength_39 : decode prog_22_method_28_code 39 = .ok (.invokevirtual 94, 3) := by decide +kernel
theorem d_ArraysSupport_hugeLength_42 : decode prog_22_method_28_code 42 = .ok (.invokevirtual 101, 3) := by decide +kernel
theorem d_ArraysSupport_hugeLength_45 : decode prog_22_method_28_code 45 = .ok (.invokespecial 212, 3) := by decide +kernel
theorem d_ArraysSupport_hugeLength_48 : decode prog_22_method_28_code 48 = .ok (.athrow, 1) := by decide +kernel
theorem d_ArraysSupport_hugeLength_49 : decode prog_22_method_28_code 49 = .ok (.iload_n 2, 1) := by decide +kernel
theorem d_ArraysSupport_hugeLength_50 : decode prog_22_method_28_code 50 = .ok (.ldc 200, 2) := by decide +kernel
theorem d_ArraysSupport_hugeLength_52 : decode prog_22_method_28_code 52 = .ok (.if_icmp .gt 6, 3) := by decide +kernel
theorem d_ArraysSupport_hugeLength_55 : decode prog_22_method_28_code 55 = .ok (.ldc 200, 2) := by decide +kernel
theorem d_ArraysSupport_hugeLength_57 : decode prog_22_method_28_code 57 = .ok (.ireturn, 1) := by decide +kernel
theorem d_ArraysSupport_hugeLength_58 : decode prog_22_method_28_code 58 = .ok (.iload_n 2, 1) := by decide +kernel
theorem d_ArraysSupport_hugeLength_59 : decode prog_22_method_28_code 59 = .ok (.ireturn, 1) := by decide +kernel
theorem d_Arrays_copyOf_0 : decode prog_16_method_119_code 0 = .ok (.aload_n 0, 1) := by decide +kernel
theorem d_Arrays_copyOf_1 : decode prog_16_method_119_code 1 = .ok (.iload_n 1, 1) := by decide +kernel
theorem d_Arrays_copyOf_2 : decode prog_16_method_119_code 2 = .ok (.aload_n 0, 1) := by decide +kernel
theorem d_Arrays_copyOf_3 : decode prog_16_method_119_code 3 = .ok (.invokevirtual 86, 3) := by decide +kernel
theorem d_Arrays_copyOf_6 : decode prog_16_method_119_code 6 = .ok (.invokestatic 300, 3) := by decide +kernel
theorem d_Arrays_copyOf_9 : decode prog_16_method_119_code 9 = .ok (.areturn, 1) := by decide +kernel
theorem d_Arrays_copyOf2_0 : decode prog_16_method_120_code 0 = .ok (.aload_n 2, 1) := by decide +kernel
theorem d_Arrays_copyOf2_1 : decode prog_16_method_120_code 1 = .ok (.ldc 110, 2) := by decide +kernel
theorem d_Arrays_copyOf2_3 : decode prog_16_method_120_code 3 = .ok (.if_acmp .ne 10, 3) := by decide +kernel
theorem d_Arrays_copyOf2_6 : decode prog_16_method_120_code 6 = .ok (.iload_n 1, 1) := by decide +kernel
theorem d_Arrays_copyOf2_7 : decode prog_16_method_120_code 7 = .ok (.anewarray 2, 3) := by decide +kernel
theorem d_Arrays_copyOf2_10 : decode prog_16_method_120_code 10 = .ok (.goto 14, 3) := by decide +kernel
theorem d_Arrays_copyOf2_13 : decode prog_16_method_120_code 13 = .ok (.aload_n 2, 1) := by decide +kernel
theorem d_Arrays_copyOf2_14 : decode prog_16_method_120_code 14 = .ok (.invokevirtual 90, 3) := by decide +kernel
theorem d_Arrays_copyOf2_17 : decode prog_16_method_120_code 17 = .ok (.iload_n 1, 1) := by decide +kernel
theorem d_Arrays_copyOf2_18 : decode prog_16_method_120_code 18 = .ok (.invokestatic 95, 3) := by decide +kernel
theorem d_Arrays_copyOf2_21 : decode prog_16_method_120_code 21 = .ok (.checkcast 110, 3) := by decide +kernel
theorem d_Arrays_copyOf2_24 : decode prog_16_method_120_code 24 = .ok (.astore_n 3, 1) := by decide +kernel
theorem d_Arrays_copyOf2_25 : decode prog_16_method_120_code 25 = .ok (.aload_n 0, 1) := by decide +kernel
theorem d_Arrays_copyOf2_26 : decode prog_16_method_120_code 26 = .ok (.iconst 0, 1) := by decide +kernel
theorem d_Arrays_copyOf2_27 : decode prog_16_method_120_code 27 = .ok (.aload_n 3, 1) := by decide +kernel
theorem d_Arrays_copyOf2_28 : decode prog_16_method_120_code 28 = .ok (.iconst 0, 1) := by decide +kernel
theorem d_Arrays_copyOf2_29 : decode prog_16_method_120_code 29 = .ok (.aload_n 0, 1) := by decide +kernel
theorem d_Arrays_copyOf2_30 : decode prog_16_method_120_code 30 = .ok (.arraylength, 1) := by decide +kernel
theorem d_Arrays_copyOf2_31 : decode prog_16_method_120_code 31 = .ok (.iload_n 1, 1) := by decide +kernel
theorem d_Arrays_copyOf2_32 : decode prog_16_method_120_code 32 = .ok (.invokestatic 304, 3) := by decide +kernel
theorem d_Arrays_copyOf2_35 : decode prog_16_method_120_code 35 = .ok (.invokestatic 150, 3) := by decide +kernel
theorem d_Arrays_copyOf2_38 : decode prog_16_method_120_code 38 = .ok (.aload_n 3, 1) := by decide +kernel
theorem d_Arrays_copyOf2_39 : decode prog_16_method_120_code 39 = .ok (.areturn, 1) := by decide +kernel
theorem d_Blob_init_0 : decode prog_2_method_1_code 0 = .ok (.aload_n 0, 1) := by decide +kernel
theorem d_Blob_init_1 : decode prog_2_method_1_code 1 = .ok (.invokespecial 3, 3) := by decide +kernel
theorem d_Blob_init_4 : decode prog_2_method_1_code 4 = .ok (.aload_n 0, 1) := by decide +kernel
theorem d_Blob_init_5 : decode prog_2_method_1_code 5 = .ok (.aload_n 1, 1) := by decide +kernel
theorem d_Blob_init_6 : decode prog_2_method_1_code 6 = .ok (.arraylength, 1) := by decide +kernel
theorem d_Blob_init_7 : decode prog_2_method_1_code 7 = .ok (.putfield 9, 3) := by decide +kernel
theorem d_Blob_init_10 : decode prog_2_method_1_code 10 = .ok (.aload_n 0, 1) := by decide +kernel
theorem d_Blob_init_11 : decode prog_2_method_1_code 11 = .ok (.iconst 0, 1) := by decide +kernel
theorem d_Blob_init_12 : decode prog_2_method_1_code 12 = .ok (.aload_n 1, 1) := by decide +kernel
theorem d_Blob_init_13 : decode prog_2_method_1_code 13 = .ok (.invokestatic 15, 3) := by decide +kernel
theorem d_Blob_init_16 : decode prog_2_method_1_code 16 = .ok (.putfield 19, 3) := by decide +kernel
theorem d_Blob_init_19 : decode prog_2_method_1_code 19 = .ok (.aload_n 0, 1) := by decide +kernel
theorem d_Blob_init_20 : decode prog_2_method_1_code 20 = .ok (.aload_n 1, 1) := by decide +kernel
theorem d_Blob_init_21 : decode prog_2_method_1_code 21 = .ok (.invokestatic 22, 3) := by decide +kernel
theorem d_Blob_init_24 : decode prog_2_method_1_code 24 = .ok (.putfield 26, 3) := by decide +kernel
theorem d_Blob_init_27 : decode prog_2_method_1_code 27 = .ok (.aload_n 0, 1) := by decide +kernel
theorem d_Blob_init_28 : decode prog_2_method_1_code 28 = .ok (.aload_n 2, 1) := by decide +kernel
theorem d_Blob_init_29 : decode prog_2_method_1_code 29 = .ok (.putfield 30, 3) := by decide +kernel
theorem d_Blob_init_32 : decode prog_2_method_1_code 32 = .ok (.aload_n 0, 1) := by decide +kernel
theorem d_Blob_init_33 : decode prog_2_method_1_code 33 = .ok (.iconst (-1), 1) := by decide +kernel
theorem d_Blob_init_34 : decode prog_2_method_1_code 34 = .ok (.putfield 34, 3) := by decide +kernel
theorem d_Blob_init_37 : decode prog_2_method_1_code 37 = .ok (.aload_n 0, 1) := by decide +kernel
theorem d_Blob_init_38 : decode prog_2_method_1_code 38 = .ok (.iconst 1, 1) := by decide +kernel
theorem d_Blob_init_39 : decode prog_2_method_1_code 39 = .ok (.putfield 37, 3) := by decide +kernel
theorem d_Blob_init_42 : decode prog_2_method_1_code 42 = .ok (.return_, 1) := by decide +kernel
theorem d_ContentStore_digestOf_0 : decode prog_1_method_30_code 0 = .ok (.aload_n 0, 1) := by decide +kernel
theorem d_ContentStore_digestOf_1 : decode prog_1_method_30_code 1 = .ok (.arraylength, 1) := by decide +kernel
theorem d_ContentStore_digestOf_2 : decode prog_1_method_30_code 2 = .ok (.i2l, 1) := by decide +kernel
theorem d_ContentStore_digestOf_3 : decode prog_1_method_30_code 3 = .ok (.lstore_n 1, 1) := by decide +kernel
theorem d_ContentStore_digestOf_4 : decode prog_1_method_30_code 4 = .ok (.iconst 0, 1) := by decide +kernel
theorem d_ContentStore_digestOf_5 : decode prog_1_method_30_code 5 = .ok (.istore_n 3, 1) := by decide +kernel
theorem d_ContentStore_digestOf_6 : decode prog_1_method_30_code 6 = .ok (.iload_n 3, 1) := by decide +kernel
theorem d_ContentStore_digestOf_7 : decode prog_1_method_30_code 7 = .ok (.aload_n 0, 1) := by decide +kernel
theorem d_ContentStore_digestOf_8 : decode prog_1_method_30_code 8 = .ok (.arraylength, 1) := by decide +kernel
theorem d_ContentStore_digestOf_9 : decode prog_1_method_30_code 9 = .ok (.if_icmp .ge 27, 3) := by decide +kernel
theorem d_ContentStore_digestOf_12 : decode prog_1_method_30_code 12 = .ok (.lload_n 1, 1) := by decide +kernel
theorem d_ContentStore_digestOf_13 : decode prog_1_method_30_code 13 = .ok (.aload_n 0, 1) := by decide +kernel
theorem d_ContentStore_digestOf_14 : decode prog_1_method_30_code 14 = .ok (.iload_n 3, 1) := by decide +kernel
theorem d_ContentStore_digestOf_15 : decode prog_1_method_30_code 15 = .ok (.iaload, 1) := by decide +kernel
theorem d_ContentStore_digestOf_16 : decode prog_1_method_30_code 16 = .ok (.i2l, 1) := by decide +kernel
theorem d_ContentStore_digestOf_17 : decode prog_1_method_30_code 17 = .ok (.lxor, 1) := by decide +kernel
theorem d_ContentStore_digestOf_18 : decode prog_1_method_30_code 18 = .ok (.ldc2_w 190, 3) := by decide +kernel
theorem d_ContentStore_digestOf_21 : decode prog_1_method_30_code 21 = .ok (.lmul, 1) := by decide +kernel
theorem d_ContentStore_digestOf_22 : decode prog_1_method_30_code 22 = .ok (.lstore_n 1, 1) := by decide +kernel
theorem d_ContentStore_digestOf_23 : decode prog_1_method_30_code 23 = .ok (.lload_n 1, 1) := by decide +kernel
theorem d_ContentStore_digestOf_24 : decode prog_1_method_30_code 24 = .ok (.lload_n 1, 1) := by decide +kernel
theorem d_ContentStore_digestOf_25 : decode prog_1_method_30_code 25 = .ok (.bipush 29, 2) := by decide +kernel
theorem d_ContentStore_digestOf_27 : decode prog_1_method_30_code 27 = .ok (.lushr, 1) := by decide +kernel
theorem d_ContentStore_digestOf_28 : decode prog_1_method_30_code 28 = .ok (.lxor, 1) := by decide +kernel
theorem d_ContentStore_digestOf_29 : decode prog_1_method_30_code 29 = .ok (.lstore_n 1, 1) := by decide +kernel
theorem d_ContentStore_digestOf_30 : decode prog_1_method_30_code 30 = .ok (.iinc 3 1, 3) := by decide +kernel
theorem d_ContentStore_digestOf_33 : decode prog_1_method_30_code 33 = .ok (.goto (-27), 3) := by decide +kernel
theorem d_ContentStore_digestOf_36 : decode prog_1_method_30_code 36 = .ok (.lload_n 1, 1) := by decide +kernel
theorem d_ContentStore_digestOf_37 : decode prog_1_method_30_code 37 = .ok (.lreturn, 1) := by decide +kernel
theorem d_ContentStore_there_0 : decode prog_1_method_5_code 0 = .ok (.aload_n 0, 1) := by decide +kernel
theorem d_ContentStore_there_1 : decode prog_1_method_5_code 1 = .ok (.iload_n 1, 1) := by decide +kernel
theorem d_ContentStore_there_2 : decode prog_1_method_5_code 2 = .ok (.invokevirtual 86, 3) := by decide +kernel
theorem d_ContentStore_there_5 : decode prog_1_method_5_code 5 = .ok (.ifnull 7, 3) := by decide +kernel
theorem d_ContentStore_there_8 : decode prog_1_method_5_code 8 = .ok (.iconst 1, 1) := by decide +kernel
theorem d_ContentStore_there_9 : decode prog_1_method_5_code 9 = .ok (.goto 4, 3) := by decide +kernel
theorem d_ContentStore_there_12 : decode prog_1_method_5_code 12 = .ok (.iconst 0, 1) := by decide +kernel
theorem d_ContentStore_there_13 : decode prog_1_method_5_code 13 = .ok (.ireturn, 1) := by decide +kernel
theorem d_ContentStore_digest_0 : decode prog_1_method_6_code 0 = .ok (.aload_n 0, 1) := by decide +kernel
theorem d_ContentStore_digest_1 : decode prog_1_method_6_code 1 = .ok (.iload_n 1, 1) := by decide +kernel
theorem d_ContentStore_digest_2 : decode prog_1_method_6_code 2 = .ok (.invokevirtual 86, 3) := by decide +kernel
theorem d_ContentStore_digest_5 : decode prog_1_method_6_code 5 = .ok (.astore_n 2, 1) := by decide +kernel
theorem d_ContentStore_digest_6 : decode prog_1_method_6_code 6 = .ok (.aload_n 2, 1) := by decide +kernel
theorem d_ContentStore_digest_7 : decode prog_1_method_6_code 7 = .ok (.ifnonnull 7, 3) := by decide +kernel
theorem d_ContentStore_digest_10 : decode prog_1_method_6_code 10 = .ok (.lconst 0, 1) := by decide +kernel
theorem d_ContentStore_digest_11 : decode prog_1_method_6_code 11 = .ok (.goto 7, 3) := by decide +kernel
theorem d_ContentStore_digest_14 : decode prog_1_method_6_code 14 = .ok (.aload_n 2, 1) := by decide +kernel
theorem d_ContentStore_digest_15 : decode prog_1_method_6_code 15 = .ok (.getfield 90, 3) := by decide +kernel
theorem d_ContentStore_digest_18 : decode prog_1_method_6_code 18 = .ok (.lreturn, 1) := by decide +kernel
theorem d_ContentStore_size_0 : decode prog_1_method_7_code 0 = .ok (.aload_n 0, 1) := by decide +kernel
theorem d_ContentStore_size_1 : decode prog_1_method_7_code 1 = .ok (.iload_n 1, 1) := by decide +kernel
theorem d_ContentStore_size_2 : decode prog_1_method_7_code 2 = .ok (.invokevirtual 86, 3) := by decide +kernel
theorem d_ContentStore_size_5 : decode prog_1_method_7_code 5 = .ok (.astore_n 2, 1) := by decide +kernel
theorem d_ContentStore_size_6 : decode prog_1_method_7_code 6 = .ok (.aload_n 2, 1) := by decide +kernel
theorem d_ContentStore_size_7 : decode prog_1_method_7_code 7 = .ok (.ifnonnull 7, 3) := by decide +kernel
theorem d_ContentStore_size_10 : decode prog_1_method_7_code 10 = .ok (.iconst (-1), 1) := by decide +kernel
theorem d_ContentStore_size_11 : decode prog_1_method_7_code 11 = .ok (.goto 7, 3) := by decide +kernel
theorem d_ContentStore_size_14 : decode prog_1_method_7_code 14 = .ok (.aload_n 2, 1) := by decide +kernel
theorem d_ContentStore_size_15 : decode prog_1_method_7_code 15 = .ok (.getfield 94, 3) := by decide +kernel
theorem d_ContentStore_size_18 : decode prog_1_method_7_code 18 = .ok (.ireturn, 1) := by decide +kernel
theorem d_ContentStore_get_0 : decode prog_1_method_8_code 0 = .ok (.aload_n 0, 1) := by decide +kernel
theorem d_ContentStore_get_1 : decode prog_1_method_8_code 1 = .ok (.iload_n 1, 1) := by decide +kernel
theorem d_ContentStore_get_2 : decode prog_1_method_8_code 2 = .ok (.invokevirtual 86, 3) := by decide +kernel
theorem d_ContentStore_get_5 : decode prog_1_method_8_code 5 = .ok (.astore_n 3, 1) := by decide +kernel
theorem d_ContentStore_get_6 : decode prog_1_method_8_code 6 = .ok (.aload_n 3, 1) := by decide +kernel
theorem d_ContentStore_get_7 : decode prog_1_method_8_code 7 = .ok (.ifnonnull 7, 3) := by decide +kernel
theorem d_ContentStore_get_10 : decode prog_1_method_8_code 10 = .ok (.aconst_null, 1) := by decide +kernel
theorem d_ContentStore_get_11 : decode prog_1_method_8_code 11 = .ok (.goto 8, 3) := by decide +kernel
theorem d_ContentStore_get_14 : decode prog_1_method_8_code 14 = .ok (.aload_n 3, 1) := by decide +kernel
theorem d_ContentStore_get_15 : decode prog_1_method_8_code 15 = .ok (.iload_n 2, 1) := by decide +kernel
theorem d_ContentStore_get_16 : decode prog_1_method_8_code 16 = .ok (.invokevirtual 97, 3) := by decide +kernel
theorem d_ContentStore_get_19 : decode prog_1_method_8_code 19 = .ok (.astore 4, 2) := by decide +kernel
theorem d_ContentStore_get_21 : decode prog_1_method_8_code 21 = .ok (.aload 4, 2) := by decide +kernel
theorem d_ContentStore_get_23 : decode prog_1_method_8_code 23 = .ok (.ifnonnull 5, 3) := by decide +kernel
theorem d_ContentStore_get_26 : decode prog_1_method_8_code 26 = .ok (.iconst (-1), 1) := by decide +kernel
theorem d_ContentStore_get_27 : decode prog_1_method_8_code 27 = .ok (.ireturn, 1) := by decide +kernel
theorem d_ContentStore_get_28 : decode prog_1_method_8_code 28 = .ok (.aload_n 3, 1) := by decide +kernel
theorem d_ContentStore_get_29 : decode prog_1_method_8_code 29 = .ok (.invokevirtual 101, 3) := by decide +kernel
theorem d_ContentStore_get_32 : decode prog_1_method_8_code 32 = .ok (.ifCond .eq 15, 3) := by decide +kernel
theorem d_ContentStore_get_35 : decode prog_1_method_8_code 35 = .ok (.aload 4, 2) := by decide +kernel
theorem d_ContentStore_get_37 : decode prog_1_method_8_code 37 = .ok (.iload_n 2, 1) := by decide +kernel
theorem d_ContentStore_get_38 : decode prog_1_method_8_code 38 = .ok (.bipush 16, 2) := by decide +kernel
theorem d_ContentStore_get_40 : decode prog_1_method_8_code 40 = .ok (.irem, 1) := by decide +kernel
theorem d_ContentStore_get_41 : decode prog_1_method_8_code 41 = .ok (.invokevirtual 104, 3) := by decide +kernel
theorem d_ContentStore_get_44 : decode prog_1_method_8_code 44 = .ok (.goto 5, 3) := by decide +kernel
theorem d_ContentStore_get_47 : decode prog_1_method_8_code 47 = .ok (.bipush (-2), 2) := by decide +kernel
theorem d_ContentStore_get_49 : decode prog_1_method_8_code 49 = .ok (.ireturn, 1) := by decide +kernel
theorem d_Blob_partOf_0 : decode prog_2_method_2_code 0 = .ok (.iload_n 1, 1) := by decide +kernel
theorem d_Blob_partOf_1 : decode prog_2_method_2_code 1 = .ok (.bipush 16, 2) := by decide +kernel
theorem d_Blob_partOf_3 : decode prog_2_method_2_code 3 = .ok (.idiv, 1) := by decide +kernel
theorem d_Blob_partOf_4 : decode prog_2_method_2_code 4 = .ok (.istore_n 2, 1) := by decide +kernel
theorem d_Blob_partOf_5 : decode prog_2_method_2_code 5 = .ok (.iload_n 1, 1) := by decide +kernel
theorem d_Blob_partOf_6 : decode prog_2_method_2_code 6 = .ok (.ifCond .lt 20, 3) := by decide +kernel
theorem d_Blob_partOf_9 : decode prog_2_method_2_code 9 = .ok (.iload_n 1, 1) := by decide +kernel
theorem d_Blob_partOf_10 : decode prog_2_method_2_code 10 = .ok (.aload_n 0, 1) := by decide +kernel
theorem d_Blob_partOf_11 : decode prog_2_method_2_code 11 = .ok (.getfield 9, 3) := by decide +kernel
theorem d_Blob_partOf_14 : decode prog_2_method_2_code 14 = .ok (.if_icmp .ge 12, 3) := by decide +kernel
theorem d_Blob_partOf_17 : decode prog_2_method_2_code 17 = .ok (.iload_n 2, 1) := by decide +kernel
theorem d_Blob_partOf_18 : decode prog_2_method_2_code 18 = .ok (.aload_n 0, 1) := by decide +kernel
theorem d_Blob_partOf_19 : decode prog_2_method_2_code 19 = .ok (.getfield 30, 3) := by decide +kernel
theorem d_Blob_partOf_22 : decode prog_2_method_2_code 22 = .ok (.arraylength, 1) := by decide +kernel
theorem d_Blob_partOf_23 : decode prog_2_method_2_code 23 = .ok (.if_icmp .lt 7, 3) := by decide +kernel
theorem d_Blob_partOf_26 : decode prog_2_method_2_code 26 = .ok (.aconst_null, 1) := by decide +kernel
theorem d_Blob_partOf_27 : decode prog_2_method_2_code 27 = .ok (.goto 9, 3) := by decide +kernel
theorem d_Blob_partOf_30 : decode prog_2_method_2_code 30 = .ok (.aload_n 0, 1) := by decide +kernel
theorem d_Blob_partOf_31 : decode prog_2_method_2_code 31 = .ok (.getfield 30, 3) := by decide +kernel
theorem d_Blob_partOf_34 : decode prog_2_method_2_code 34 = .ok (.iload_n 2, 1) := by decide +kernel
theorem d_Blob_partOf_35 : decode prog_2_method_2_code 35 = .ok (.aaload, 1) := by decide +kernel
theorem d_Blob_partOf_36 : decode prog_2_method_2_code 36 = .ok (.areturn, 1) := by decide +kernel
theorem d_Part_byteAt_0 : decode prog_3_method_2_code 0 = .ok (.iload_n 1, 1) := by decide +kernel
theorem d_Part_byteAt_1 : decode prog_3_method_2_code 1 = .ok (.ifCond .lt 12, 3) := by decide +kernel
theorem d_Part_byteAt_4 : decode prog_3_method_2_code 4 = .ok (.iload_n 1, 1) := by decide +kernel
theorem d_Part_byteAt_5 : decode prog_3_method_2_code 5 = .ok (.aload_n 0, 1) := by decide +kernel
theorem d_Part_byteAt_6 : decode prog_3_method_2_code 6 = .ok (.getfield 13, 3) := by decide +kernel
theorem d_Part_byteAt_9 : decode prog_3_method_2_code 9 = .ok (.arraylength, 1) := by decide +kernel
theorem d_Part_byteAt_10 : decode prog_3_method_2_code 10 = .ok (.if_icmp .lt 7, 3) := by decide +kernel
theorem d_Part_byteAt_13 : decode prog_3_method_2_code 13 = .ok (.iconst (-1), 1) := by decide +kernel
theorem d_Part_byteAt_14 : decode prog_3_method_2_code 14 = .ok (.goto 9, 3) := by decide +kernel
theorem d_Part_byteAt_17 : decode prog_3_method_2_code 17 = .ok (.aload_n 0, 1) := by decide +kernel
theorem d_Part_byteAt_18 : decode prog_3_method_2_code 18 = .ok (.getfield 13, 3) := by decide +kernel
theorem d_Part_byteAt_21 : decode prog_3_method_2_code 21 = .ok (.iload_n 1, 1) := by decide +kernel
theorem d_Part_byteAt_22 : decode prog_3_method_2_code 22 = .ok (.iaload, 1) := by decide +kernel
theorem d_Part_byteAt_23 : decode prog_3_method_2_code 23 = .ok (.ireturn, 1) := by decide +kernel
theorem d_ContentStore_poison_0 : decode prog_1_method_9_code 0 = .ok (.aload_n 0, 1) := by decide +kernel
theorem d_ContentStore_poison_1 : decode prog_1_method_9_code 1 = .ok (.iload_n 1, 1) := by decide +kernel
theorem d_ContentStore_poison_2 : decode prog_1_method_9_code 2 = .ok (.invokevirtual 86, 3) := by decide +kernel
theorem d_ContentStore_poison_5 : decode prog_1_method_9_code 5 = .ok (.astore 4, 2) := by decide +kernel
theorem d_ContentStore_poison_7 : decode prog_1_method_9_code 7 = .ok (.aload 4, 2) := by decide +kernel
theorem d_ContentStore_poison_9 : decode prog_1_method_9_code 9 = .ok (.ifnonnull 7, 3) := by decide +kernel
theorem d_ContentStore_poison_12 : decode prog_1_method_9_code 12 = .ok (.aconst_null, 1) := by decide +kernel
theorem d_ContentStore_poison_13 : decode prog_1_method_9_code 13 = .ok (.goto 9, 3) := by decide +kernel
theorem d_ContentStore_poison_16 : decode prog_1_method_9_code 16 = .ok (.aload 4, 2) := by decide +kernel
theorem d_ContentStore_poison_18 : decode prog_1_method_9_code 18 = .ok (.iload_n 2, 1) := by decide +kernel
theorem d_ContentStore_poison_19 : decode prog_1_method_9_code 19 = .ok (.invokevirtual 97, 3) := by decide +kernel
theorem d_ContentStore_poison_22 : decode prog_1_method_9_code 22 = .ok (.astore 5, 2) := by decide +kernel
theorem d_ContentStore_poison_24 : decode prog_1_method_9_code 24 = .ok (.iload_n 3, 1) := by decide +kernel
theorem d_ContentStore_poison_25 : decode prog_1_method_9_code 25 = .ok (.sipush 255, 3) := by decide +kernel
theorem d_ContentStore_poison_28 : decode prog_1_method_9_code 28 = .ok (.iand, 1) := by decide +kernel
theorem d_ContentStore_poison_29 : decode prog_1_method_9_code 29 = .ok (.istore 6, 2) := by decide +kernel
theorem d_ContentStore_poison_31 : decode prog_1_method_9_code 31 = .ok (.aload 5, 2) := by decide +kernel
theorem d_ContentStore_poison_33 : decode prog_1_method_9_code 33 = .ok (.ifnull 8, 3) := by decide +kernel
theorem d_ContentStore_poison_36 : decode prog_1_method_9_code 36 = .ok (.iload 6, 2) := by decide +kernel
theorem d_ContentStore_poison_38 : decode prog_1_method_9_code 38 = .ok (.ifCond .ne 5, 3) := by decide +kernel
theorem d_ContentStore_poison_41 : decode prog_1_method_9_code 41 = .ok (.iconst 0, 1) := by decide +kernel
theorem d_ContentStore_poison_42 : decode prog_1_method_9_code 42 = .ok (.ireturn, 1) := by decide +kernel
theorem d_ContentStore_poison_43 : decode prog_1_method_9_code 43 = .ok (.aload 5, 2) := by decide +kernel
theorem d_ContentStore_poison_45 : decode prog_1_method_9_code 45 = .ok (.iload_n 2, 1) := by decide +kernel
theorem d_ContentStore_poison_46 : decode prog_1_method_9_code 46 = .ok (.bipush 16, 2) := by decide +kernel
theorem d_ContentStore_poison_48 : decode prog_1_method_9_code 48 = .ok (.irem, 1) := by decide +kernel
theorem d_ContentStore_poison_49 : decode prog_1_method_9_code 49 = .ok (.iload 6, 2) := by decide +kernel
theorem d_ContentStore_poison_51 : decode prog_1_method_9_code 51 = .ok (.invokevirtual 110, 3) := by decide +kernel
theorem d_ContentStore_poison_54 : decode prog_1_method_9_code 54 = .ok (.ireturn, 1) := by decide +kernel
theorem d_Part_alter_0 : decode prog_3_method_3_code 0 = .ok (.iload_n 1, 1) := by decide +kernel
theorem d_Part_alter_1 : decode prog_3_method_3_code 1 = .ok (.ifCond .lt 12, 3) := by decide +kernel
theorem d_Part_alter_4 : decode prog_3_method_3_code 4 = .ok (.iload_n 1, 1) := by decide +kernel
theorem d_Part_alter_5 : decode prog_3_method_3_code 5 = .ok (.aload_n 0, 1) := by decide +kernel
theorem d_Part_alter_6 : decode prog_3_method_3_code 6 = .ok (.getfield 13, 3) := by decide +kernel
theorem d_Part_alter_9 : decode prog_3_method_3_code 9 = .ok (.arraylength, 1) := by decide +kernel
theorem d_Part_alter_10 : decode prog_3_method_3_code 10 = .ok (.if_icmp .lt 5, 3) := by decide +kernel
theorem d_Part_alter_13 : decode prog_3_method_3_code 13 = .ok (.iconst 0, 1) := by decide +kernel
theorem d_Part_alter_14 : decode prog_3_method_3_code 14 = .ok (.ireturn, 1) := by decide +kernel
theorem d_Part_alter_15 : decode prog_3_method_3_code 15 = .ok (.aload_n 0, 1) := by decide +kernel
theorem d_Part_alter_16 : decode prog_3_method_3_code 16 = .ok (.getfield 13, 3) := by decide +kernel
theorem d_Part_alter_19 : decode prog_3_method_3_code 19 = .ok (.iload_n 1, 1) := by decide +kernel
theorem d_Part_alter_20 : decode prog_3_method_3_code 20 = .ok (.dup2, 1) := by decide +kernel
theorem d_Part_alter_21 : decode prog_3_method_3_code 21 = .ok (.iaload, 1) := by decide +kernel
theorem d_Part_alter_22 : decode prog_3_method_3_code 22 = .ok (.iload_n 2, 1) := by decide +kernel
theorem d_Part_alter_23 : decode prog_3_method_3_code 23 = .ok (.ixor, 1) := by decide +kernel
theorem d_Part_alter_24 : decode prog_3_method_3_code 24 = .ok (.iastore, 1) := by decide +kernel
theorem d_Part_alter_25 : decode prog_3_method_3_code 25 = .ok (.iconst 1, 1) := by decide +kernel
theorem d_Part_alter_26 : decode prog_3_method_3_code 26 = .ok (.ireturn, 1) := by decide +kernel
theorem d_ContentStore_sound_0 : decode prog_1_method_10_code 0 = .ok (.aload_n 0, 1) := by decide +kernel
theorem d_ContentStore_sound_1 : decode prog_1_method_10_code 1 = .ok (.iload_n 1, 1) := by decide +kernel
theorem d_ContentStore_sound_2 : decode prog_1_method_10_code 2 = .ok (.invokevirtual 86, 3) := by decide +kernel
theorem d_ContentStore_sound_5 : decode prog_1_method_10_code 5 = .ok (.astore_n 2, 1) := by decide +kernel
theorem d_ContentStore_sound_6 : decode prog_1_method_10_code 6 = .ok (.aload_n 2, 1) := by decide +kernel
theorem d_ContentStore_sound_7 : decode prog_1_method_10_code 7 = .ok (.ifnull 14, 3) := by decide +kernel
theorem d_ContentStore_sound_10 : decode prog_1_method_10_code 10 = .ok (.aload_n 2, 1) := by decide +kernel
theorem d_ContentStore_sound_11 : decode prog_1_method_10_code 11 = .ok (.invokevirtual 101, 3) := by decide +kernel
theorem d_ContentStore_sound_14 : decode prog_1_method_10_code 14 = .ok (.ifCond .eq 7, 3) := by decide +kernel
theorem d_ContentStore_sound_17 : decode prog_1_method_10_code 17 = .ok (.iconst 1, 1) := by decide +kernel
theorem d_ContentStore_sound_18 : decode prog_1_method_10_code 18 = .ok (.goto 4, 3) := by decide +kernel
theorem d_ContentStore_sound_21 : decode prog_1_method_10_code 21 = .ok (.iconst 0, 1) := by decide +kernel
theorem d_ContentStore_sound_22 : decode prog_1_method_10_code 22 = .ok (.ireturn, 1) := by decide +kernel
theorem d_ContentStore_mirror_0 : decode prog_1_method_11_code 0 = .ok (.aload_n 0, 1) := by decide +kernel
theorem d_ContentStore_mirror_1 : decode prog_1_method_11_code 1 = .ok (.iload_n 1, 1) := by decide +kernel
theorem d_ContentStore_mirror_2 : decode prog_1_method_11_code 2 = .ok (.invokevirtual 86, 3) := by decide +kernel
theorem d_ContentStore_mirror_5 : decode prog_1_method_11_code 5 = .ok (.astore_n 2, 1) := by decide +kernel
theorem d_ContentStore_mirror_6 : decode prog_1_method_11_code 6 = .ok (.aload_n 2, 1) := by decide +kernel
theorem d_ContentStore_mirror_7 : decode prog_1_method_11_code 7 = .ok (.ifnonnull 5, 3) := by decide +kernel
theorem d_ContentStore_mirror_10 : decode prog_1_method_11_code 10 = .ok (.iconst 0, 1) := by decide +kernel
theorem d_ContentStore_mirror_11 : decode prog_1_method_11_code 11 = .ok (.ireturn, 1) := by decide +kernel
theorem d_ContentStore_mirror_12 : decode prog_1_method_11_code 12 = .ok (.aload_n 2, 1) := by decide +kernel
theorem d_ContentStore_mirror_13 : decode prog_1_method_11_code 13 = .ok (.invokevirtual 114, 3) := by decide +kernel
theorem d_ContentStore_mirror_16 : decode prog_1_method_11_code 16 = .ok (.iconst 1, 1) := by decide +kernel
theorem d_ContentStore_mirror_17 : decode prog_1_method_11_code 17 = .ok (.ireturn, 1) := by decide +kernel
theorem d_Blob_copyBytes_0 : decode prog_2_method_6_code 0 = .ok (.aload_n 0, 1) := by decide +kernel
theorem d_Blob_copyBytes_1 : decode prog_2_method_6_code 1 = .ok (.getfield 51, 3) := by decide +kernel
theorem d_Blob_copyBytes_4 : decode prog_2_method_6_code 4 = .ok (.ifnonnull 13, 3) := by decide +kernel
theorem d_Blob_copyBytes_7 : decode prog_2_method_6_code 7 = .ok (.aload_n 0, 1) := by decide +kernel
theorem d_Blob_copyBytes_8 : decode prog_2_method_6_code 8 = .ok (.aload_n 0, 1) := by decide +kernel
theorem d_Blob_copyBytes_9 : decode prog_2_method_6_code 9 = .ok (.getfield 9, 3) := by decide +kernel
theorem d_Blob_copyBytes_12 : decode prog_2_method_6_code 12 = .ok (.newarray .int, 2) := by decide +kernel
theorem d_Blob_copyBytes_14 : decode prog_2_method_6_code 14 = .ok (.putfield 51, 3) := by decide +kernel
theorem d_Blob_copyBytes_17 : decode prog_2_method_6_code 17 = .ok (.iconst 0, 1) := by decide +kernel
theorem d_Blob_copyBytes_18 : decode prog_2_method_6_code 18 = .ok (.istore_n 1, 1) := by decide +kernel
theorem d_Blob_copyBytes_19 : decode prog_2_method_6_code 19 = .ok (.iload_n 1, 1) := by decide +kernel
theorem d_Blob_copyBytes_20 : decode prog_2_method_6_code 20 = .ok (.aload_n 0, 1) := by decide +kernel
theorem d_Blob_copyBytes_21 : decode prog_2_method_6_code 21 = .ok (.getfield 9, 3) := by decide +kernel
theorem d_Blob_copyBytes_24 : decode prog_2_method_6_code 24 = .ok (.if_icmp .ge 37, 3) := by decide +kernel
theorem d_Blob_copyBytes_27 : decode prog_2_method_6_code 27 = .ok (.aload_n 0, 1) := by decide +kernel
theorem d_Blob_copyBytes_28 : decode prog_2_method_6_code 28 = .ok (.iload_n 1, 1) := by decide +kernel
theorem d_Blob_copyBytes_29 : decode prog_2_method_6_code 29 = .ok (.invokevirtual 54, 3) := by decide +kernel
theorem d_Blob_copyBytes_32 : decode prog_2_method_6_code 32 = .ok (.astore_n 2, 1) := by decide +kernel
theorem d_Blob_copyBytes_33 : decode prog_2_method_6_code 33 = .ok (.aload_n 0, 1) := by decide +kernel
theorem d_Blob_copyBytes_34 : decode prog_2_method_6_code 34 = .ok (.getfield 51, 3) := by decide +kernel
theorem d_Blob_copyBytes_37 : decode prog_2_method_6_code 37 = .ok (.iload_n 1, 1) := by decide +kernel
theorem d_Blob_copyBytes_38 : decode prog_2_method_6_code 38 = .ok (.aload_n 2, 1) := by decide +kernel
theorem d_Blob_copyBytes_39 : decode prog_2_method_6_code 39 = .ok (.ifnonnull 7, 3) := by decide +kernel
theorem d_Blob_copyBytes_42 : decode prog_2_method_6_code 42 = .ok (.iconst 0, 1) := by decide +kernel
theorem d_Blob_copyBytes_43 : decode prog_2_method_6_code 43 = .ok (.goto 11, 3) := by decide +kernel
theorem d_Blob_copyBytes_46 : decode prog_2_method_6_code 46 = .ok (.aload_n 2, 1) := by decide +kernel
theorem d_Blob_copyBytes_47 : decode prog_2_method_6_code 47 = .ok (.iload_n 1, 1) := by decide +kernel
theorem d_Blob_copyBytes_48 : decode prog_2_method_6_code 48 = .ok (.bipush 16, 2) := by decide +kernel
theorem d_Blob_copyBytes_50 : decode prog_2_method_6_code 50 = .ok (.irem, 1) := by decide +kernel
theorem d_Blob_copyBytes_51 : decode prog_2_method_6_code 51 = .ok (.invokevirtual 58, 3) := by decide +kernel
theorem d_Blob_copyBytes_54 : decode prog_2_method_6_code 54 = .ok (.iastore, 1) := by decide +kernel
theorem d_Blob_copyBytes_55 : decode prog_2_method_6_code 55 = .ok (.iinc 1 1, 3) := by decide +kernel
theorem d_Blob_copyBytes_58 : decode prog_2_method_6_code 58 = .ok (.goto (-39), 3) := by decide +kernel
theorem d_Blob_copyBytes_61 : decode prog_2_method_6_code 61 = .ok (.return_, 1) := by decide +kernel
theorem d_ContentStore_repair_0 : decode prog_1_method_12_code 0 = .ok (.aload_n 0, 1) := by decide +kernel
theorem d_ContentStore_repair_1 : decode prog_1_method_12_code 1 = .ok (.iload_n 1, 1) := by decide +kernel
theorem d_ContentStore_repair_2 : decode prog_1_method_12_code 2 = .ok (.invokevirtual 86, 3) := by decide +kernel
theorem d_ContentStore_repair_5 : decode prog_1_method_12_code 5 = .ok (.astore_n 2, 1) := by decide +kernel
theorem d_ContentStore_repair_6 : decode prog_1_method_12_code 6 = .ok (.aload_n 2, 1) := by decide +kernel
theorem d_ContentStore_repair_7 : decode prog_1_method_12_code 7 = .ok (.ifnonnull 5, 3) := by decide +kernel
theorem d_ContentStore_repair_10 : decode prog_1_method_12_code 10 = .ok (.iconst (-1), 1) := by decide +kernel
theorem d_ContentStore_repair_11 : decode prog_1_method_12_code 11 = .ok (.ireturn, 1) := by decide +kernel
theorem d_ContentStore_repair_12 : decode prog_1_method_12_code 12 = .ok (.aload_n 2, 1) := by decide +kernel
theorem d_ContentStore_repair_13 : decode prog_1_method_12_code 13 = .ok (.invokevirtual 101, 3) := by decide +kernel
theorem d_ContentStore_repair_16 : decode prog_1_method_12_code 16 = .ok (.ifCond .eq 5, 3) := by decide +kernel
theorem d_ContentStore_repair_19 : decode prog_1_method_12_code 19 = .ok (.iconst 0, 1) := by decide +kernel
theorem d_ContentStore_repair_20 : decode prog_1_method_12_code 20 = .ok (.ireturn, 1) := by decide +kernel
theorem d_ContentStore_repair_21 : decode prog_1_method_12_code 21 = .ok (.aload_n 2, 1) := by decide +kernel
theorem d_ContentStore_repair_22 : decode prog_1_method_12_code 22 = .ok (.invokevirtual 117, 3) := by decide +kernel
theorem d_ContentStore_repair_25 : decode prog_1_method_12_code 25 = .ok (.ifCond .ne 6, 3) := by decide +kernel
theorem d_ContentStore_repair_28 : decode prog_1_method_12_code 28 = .ok (.bipush (-2), 2) := by decide +kernel
theorem d_ContentStore_repair_30 : decode prog_1_method_12_code 30 = .ok (.ireturn, 1) := by decide +kernel
theorem d_ContentStore_repair_31 : decode prog_1_method_12_code 31 = .ok (.aload_n 0, 1) := by decide +kernel
theorem d_ContentStore_repair_32 : decode prog_1_method_12_code 32 = .ok (.getfield 23, 3) := by decide +kernel
theorem d_ContentStore_repair_35 : decode prog_1_method_12_code 35 = .ok (.aload_n 2, 1) := by decide +kernel
theorem d_ContentStore_repair_36 : decode prog_1_method_12_code 36 = .ok (.getfield 120, 3) := by decide +kernel
theorem d_ContentStore_repair_39 : decode prog_1_method_12_code 39 = .ok (.invokevirtual 123, 3) := by decide +kernel
theorem d_ContentStore_repair_42 : decode prog_1_method_12_code 42 = .ok (.ifCond .ne 6, 3) := by decide +kernel
theorem d_ContentStore_repair_45 : decode prog_1_method_12_code 45 = .ok (.bipush (-3), 2) := by decide +kernel
theorem d_ContentStore_repair_47 : decode prog_1_method_12_code 47 = .ok (.ireturn, 1) := by decide +kernel
theorem d_ContentStore_repair_48 : decode prog_1_method_12_code 48 = .ok (.aload_n 2, 1) := by decide +kernel
theorem d_ContentStore_repair_49 : decode prog_1_method_12_code 49 = .ok (.getfield 127, 3) := by decide +kernel
theorem d_ContentStore_repair_52 : decode prog_1_method_12_code 52 = .ok (.astore_n 3, 1) := by decide +kernel
theorem d_ContentStore_repair_53 : decode prog_1_method_12_code 53 = .ok (.aload_n 2, 1) := by decide +kernel
theorem d_ContentStore_repair_54 : decode prog_1_method_12_code 54 = .ok (.aload_n 0, 1) := by decide +kernel
theorem d_ContentStore_repair_55 : decode prog_1_method_12_code 55 = .ok (.getfield 23, 3) := by decide +kernel
theorem d_ContentStore_repair_58 : decode prog_1_method_12_code 58 = .ok (.aload_n 2, 1) := by decide +kernel
theorem d_ContentStore_repair_59 : decode prog_1_method_12_code 59 = .ok (.getfield 120, 3) := by decide +kernel
theorem d_ContentStore_repair_62 : decode prog_1_method_12_code 62 = .ok (.aload_n 3, 1) := by decide +kernel
theorem d_ContentStore_repair_63 : decode prog_1_method_12_code 63 = .ok (.invokevirtual 131, 3) := by decide +kernel
theorem d_ContentStore_repair_66 : decode prog_1_method_12_code 66 = .ok (.putfield 127, 3) := by decide +kernel
theorem d_ContentStore_repair_69 : decode prog_1_method_12_code 69 = .ok (.aload_n 0, 1) := by decide +kernel
theorem d_ContentStore_repair_70 : decode prog_1_method_12_code 70 = .ok (.getfield 23, 3) := by decide +kernel
theorem d_ContentStore_repair_73 : decode prog_1_method_12_code 73 = .ok (.aload_n 3, 1) := by decide +kernel
theorem d_ContentStore_repair_74 : decode prog_1_method_12_code 74 = .ok (.invokevirtual 135, 3) := by decide +kernel
theorem d_ContentStore_repair_77 : decode prog_1_method_12_code 77 = .ok (.iconst 1, 1) := by decide +kernel
theorem d_ContentStore_repair_78 : decode prog_1_method_12_code 78 = .ok (.ireturn, 1) := by decide +kernel
theorem d_Blob_hasRightCopy_0 : decode prog_2_method_7_code 0 = .ok (.aload_n 0, 1) := by decide +kernel
theorem d_Blob_hasRightCopy_1 : decode prog_2_method_7_code 1 = .ok (.getfield 51, 3) := by decide +kernel
theorem d_Blob_hasRightCopy_4 : decode prog_2_method_7_code 4 = .ok (.ifnull 22, 3) := by decide +kernel
theorem d_Blob_hasRightCopy_7 : decode prog_2_method_7_code 7 = .ok (.iconst 0, 1) := by decide +kernel
theorem d_Blob_hasRightCopy_8 : decode prog_2_method_7_code 8 = .ok (.aload_n 0, 1) := by decide +kernel
theorem d_Blob_hasRightCopy_9 : decode prog_2_method_7_code 9 = .ok (.getfield 51, 3) := by decide +kernel
theorem d_Blob_hasRightCopy_12 : decode prog_2_method_7_code 12 = .ok (.invokestatic 15, 3) := by decide +kernel
theorem d_Blob_hasRightCopy_15 : decode prog_2_method_7_code 15 = .ok (.aload_n 0, 1) := by decide +kernel
theorem d_Blob_hasRightCopy_16 : decode prog_2_method_7_code 16 = .ok (.getfield 19, 3) := by decide +kernel
theorem d_Blob_hasRightCopy_19 : decode prog_2_method_7_code 19 = .ok (.if_icmp .ne 7, 3) := by decide +kernel
theorem d_Blob_hasRightCopy_22 : decode prog_2_method_7_code 22 = .ok (.iconst 1, 1) := by decide +kernel
theorem d_Blob_hasRightCopy_23 : decode prog_2_method_7_code 23 = .ok (.goto 4, 3) := by decide +kernel
theorem d_Blob_hasRightCopy_26 : decode prog_2_method_7_code 26 = .ok (.iconst 0, 1) := by decide +kernel
theorem d_Blob_hasRightCopy_27 : decode prog_2_method_7_code 27 = .ok (.ireturn, 1) := by decide +kernel
theorem d_Shelf_leave_0 : decode prog_5_method_4_code 0 = .ok (.iconst 0, 1) := by decide +kernel
theorem d_Shelf_leave_1 : decode prog_5_method_4_code 1 = .ok (.istore_n 2, 1) := by decide +kernel
theorem d_Shelf_leave_2 : decode prog_5_method_4_code 2 = .ok (.iload_n 2, 1) := by decide +kernel
theorem d_Shelf_leave_3 : decode prog_5_method_4_code 3 = .ok (.aload_n 1, 1) := by decide +kernel
theorem d_Shelf_leave_4 : decode prog_5_method_4_code 4 = .ok (.arraylength, 1) := by decide +kernel
theorem d_Shelf_leave_5 : decode prog_5_method_4_code 5 = .ok (.if_icmp .ge 35, 3) := by decide +kernel
theorem d_Shelf_leave_8 : decode prog_5_method_4_code 8 = .ok (.aload_n 1, 1) := by decide +kernel
theorem d_Shelf_leave_9 : decode prog_5_method_4_code 9 = .ok (.iload_n 2, 1) := by decide +kernel
theorem d_Shelf_leave_10 : decode prog_5_method_4_code 10 = .ok (.aaload, 1) := by decide +kernel
theorem d_Shelf_leave_11 : decode prog_5_method_4_code 11 = .ok (.astore_n 3, 1) := by decide +kernel
theorem d_Shelf_leave_12 : decode prog_5_method_4_code 12 = .ok (.aload_n 3, 1) := by decide +kernel
theorem d_Shelf_leave_13 : decode prog_5_method_4_code 13 = .ok (.dup, 1) := by decide +kernel
theorem d_Shelf_leave_14 : decode prog_5_method_4_code 14 = .ok (.getfield 50, 3) := by decide +kernel
theorem d_Shelf_leave_17 : decode prog_5_method_4_code 17 = .ok (.iconst 1, 1) := by decide +kernel
theorem d_Shelf_leave_18 : decode prog_5_method_4_code 18 = .ok (.isub, 1) := by decide +kernel
theorem d_Shelf_leave_19 : decode prog_5_method_4_code 19 = .ok (.putfield 50, 3) := by decide +kernel
theorem d_Shelf_leave_22 : decode prog_5_method_4_code 22 = .ok (.aload_n 3, 1) := by decide +kernel
theorem d_Shelf_leave_23 : decode prog_5_method_4_code 23 = .ok (.getfield 50, 3) := by decide +kernel
theorem d_Shelf_leave_26 : decode prog_5_method_4_code 26 = .ok (.ifCond .ne 8, 3) := by decide +kernel
theorem d_Shelf_leave_29 : decode prog_5_method_4_code 29 = .ok (.aload_n 0, 1) := by decide +kernel
theorem d_Shelf_leave_30 : decode prog_5_method_4_code 30 = .ok (.aload_n 3, 1) := by decide +kernel
theorem d_Shelf_leave_31 : decode prog_5_method_4_code 31 = .ok (.invokevirtual 53, 3) := by decide +kernel
theorem d_Shelf_leave_34 : decode prog_5_method_4_code 34 = .ok (.iinc 2 1, 3) := by decide +kernel
theorem d_Shelf_leave_37 : decode prog_5_method_4_code 37 = .ok (.goto (-35), 3) := by decide +kernel
theorem d_Shelf_leave_40 : decode prog_5_method_4_code 40 = .ok (.return_, 1) := by decide +kernel
theorem d_Shelf_drop_0 : decode prog_5_method_8_code 0 = .ok (.iconst 0, 1) := by decide +kernel
theorem d_Shelf_drop_1 : decode prog_5_method_8_code 1 = .ok (.istore_n 2, 1) := by decide +kernel
theorem d_Shelf_drop_2 : decode prog_5_method_8_code 2 = .ok (.iload_n 2, 1) := by decide +kernel
theorem d_Shelf_drop_3 : decode prog_5_method_8_code 3 = .ok (.aload_n 0, 1) := by decide +kernel
theorem d_Shelf_drop_4 : decode prog_5_method_8_code 4 = .ok (.getfield 18, 3) := by decide +kernel
theorem d_Shelf_drop_7 : decode prog_5_method_8_code 7 = .ok (.invokevirtual 64, 3) := by decide +kernel
theorem d_Shelf_drop_10 : decode prog_5_method_8_code 10 = .ok (.if_icmp .ge 45, 3) := by decide +kernel
theorem d_Shelf_drop_13 : decode prog_5_method_8_code 13 = .ok (.aload_n 0, 1) := by decide +kernel
theorem d_Shelf_drop_14 : decode prog_5_method_8_code 14 = .ok (.getfield 18, 3) := by decide +kernel
theorem d_Shelf_drop_17 : decode prog_5_method_8_code 17 = .ok (.iload_n 2, 1) := by decide +kernel
theorem d_Shelf_drop_18 : decode prog_5_method_8_code 18 = .ok (.invokevirtual 68, 3) := by decide +kernel
theorem d_Shelf_drop_21 : decode prog_5_method_8_code 21 = .ok (.aload_n 1, 1) := by decide +kernel
theorem d_Shelf_drop_22 : decode prog_5_method_8_code 22 = .ok (.if_acmp .ne 27, 3) := by decide +kernel
theorem d_Shelf_drop_25 : decode prog_5_method_8_code 25 = .ok (.aload_n 0, 1) := by decide +kernel
theorem d_Shelf_drop_26 : decode prog_5_method_8_code 26 = .ok (.getfield 18, 3) := by decide +kernel
theorem d_Shelf_drop_29 : decode prog_5_method_8_code 29 = .ok (.iload_n 2, 1) := by decide +kernel
theorem d_Shelf_drop_30 : decode prog_5_method_8_code 30 = .ok (.invokevirtual 72, 3) := by decide +kernel
theorem d_Shelf_drop_33 : decode prog_5_method_8_code 33 = .ok (.pop, 1) := by decide +kernel
theorem d_Shelf_drop_34 : decode prog_5_method_8_code 34 = .ok (.aload_n 0, 1) := by decide +kernel
theorem d_Shelf_drop_35 : decode prog_5_method_8_code 35 = .ok (.dup, 1) := by decide +kernel
theorem d_Shelf_drop_36 : decode prog_5_method_8_code 36 = .ok (.getfield 34, 3) := by decide +kernel
theorem d_Shelf_drop_39 : decode prog_5_method_8_code 39 = .ok (.aload_n 1, 1) := by decide +kernel
theorem d_Shelf_drop_40 : decode prog_5_method_8_code 40 = .ok (.getfield 39, 3) := by decide +kernel
theorem d_Shelf_drop_43 : decode prog_5_method_8_code 43 = .ok (.arraylength, 1) := by decide +kernel
theorem d_Shelf_drop_44 : decode prog_5_method_8_code 44 = .ok (.isub, 1) := by decide +kernel
theorem d_Shelf_drop_45 : decode prog_5_method_8_code 45 = .ok (.putfield 34, 3) := by decide +kernel
theorem d_Shelf_drop_48 : decode prog_5_method_8_code 48 = .ok (.return_, 1) := by decide +kernel
theorem d_Shelf_drop_49 : decode prog_5_method_8_code 49 = .ok (.iinc 2 1, 3) := by decide +kernel
theorem d_Shelf_drop_52 : decode prog_5_method_8_code 52 = .ok (.goto (-50), 3) := by decide +kernel
theorem d_Shelf_drop_55 : decode prog_5_method_8_code 55 = .ok (.return_, 1) := by decide +kernel
theorem d_ArrayList_remove_0 : decode prog_15_method_29_code 0 = .ok (.iload_n 1, 1) := by decide +kernel
theorem d_ArrayList_remove_1 : decode prog_15_method_29_code 1 = .ok (.aload_n 0, 1) := by decide +kernel
theorem d_ArrayList_remove_2 : decode prog_15_method_29_code 2 = .ok (.getfield 48, 3) := by decide +kernel
theorem d_ArrayList_remove_5 : decode prog_15_method_29_code 5 = .ok (.invokestatic 118, 3) := by decide +kernel
theorem d_ArrayList_remove_8 : decode prog_15_method_29_code 8 = .ok (.pop, 1) := by decide +kernel
theorem d_ArrayList_remove_9 : decode prog_15_method_29_code 9 = .ok (.aload_n 0, 1) := by decide +kernel
theorem d_ArrayList_remove_10 : decode prog_15_method_29_code 10 = .ok (.getfield 9, 3) := by decide +kernel
theorem d_ArrayList_remove_13 : decode prog_15_method_29_code 13 = .ok (.astore_n 2, 1) := by decide +kernel
theorem d_ArrayList_remove_14 : decode prog_15_method_29_code 14 = .ok (.aload_n 2, 1) := by decide +kernel
theorem d_ArrayList_remove_15 : decode prog_15_method_29_code 15 = .ok (.iload_n 1, 1) := by decide +kernel
theorem d_ArrayList_remove_16 : decode prog_15_method_29_code 16 = .ok (.aaload, 1) := by decide +kernel
theorem d_ArrayList_remove_17 : decode prog_15_method_29_code 17 = .ok (.astore_n 3, 1) := by decide +kernel
theorem d_ArrayList_remove_18 : decode prog_15_method_29_code 18 = .ok (.aload_n 0, 1) := by decide +kernel
theorem d_ArrayList_remove_19 : decode prog_15_method_29_code 19 = .ok (.aload_n 2, 1) := by decide +kernel
theorem d_ArrayList_remove_20 : decode prog_15_method_29_code 20 = .ok (.iload_n 1, 1) := by decide +kernel
theorem d_ArrayList_remove_21 : decode prog_15_method_29_code 21 = .ok (.invokevirtual 144, 3) := by decide +kernel
theorem d_ArrayList_remove_24 : decode prog_15_method_29_code 24 = .ok (.aload_n 3, 1) := by decide +kernel
theorem d_ArrayList_remove_25 : decode prog_15_method_29_code 25 = .ok (.areturn, 1) := by decide +kernel
theorem d_ArrayList_fastRemove_0 : decode prog_15_method_39_code 0 = .ok (.aload_n 0, 1) := by decide +kernel
theorem d_ArrayList_fastRemove_1 : decode prog_15_method_39_code 1 = .ok (.dup, 1) := by decide +kernel
theorem d_ArrayList_fastRemove_2 : decode prog_15_method_39_code 2 = .ok (.getfield 63, 3) := by decide +kernel
theorem d_ArrayList_fastRemove_5 : decode prog_15_method_39_code 5 = .ok (.iconst 1, 1) := by decide +kernel
theorem d_ArrayList_fastRemove_6 : decode prog_15_method_39_code 6 = .ok (.iadd, 1) := by decide +kernel
theorem d_ArrayList_fastRemove_7 : decode prog_15_method_39_code 7 = .ok (.putfield 63, 3) := by decide +kernel
theorem d_ArrayList_fastRemove_10 : decode prog_15_method_39_code 10 = .ok (.aload_n 0, 1) := by decide +kernel
theorem d_ArrayList_fastRemove_11 : decode prog_15_method_39_code 11 = .ok (.getfield 48, 3) := by decide +kernel
theorem d_ArrayList_fastRemove_14 : decode prog_15_method_39_code 14 = .ok (.iconst 1, 1) := by decide +kernel
theorem d_ArrayList_fastRemove_15 : decode prog_15_method_39_code 15 = .ok (.isub, 1) := by decide +kernel
theorem d_ArrayList_fastRemove_16 : decode prog_15_method_39_code 16 = .ok (.dup, 1) := by decide +kernel
theorem d_ArrayList_fastRemove_17 : decode prog_15_method_39_code 17 = .ok (.istore_n 3, 1) := by decide +kernel
theorem d_ArrayList_fastRemove_18 : decode prog_15_method_39_code 18 = .ok (.iload_n 2, 1) := by decide +kernel
theorem d_ArrayList_fastRemove_19 : decode prog_15_method_39_code 19 = .ok (.if_icmp .le 15, 3) := by decide +kernel
theorem d_ArrayList_fastRemove_22 : decode prog_15_method_39_code 22 = .ok (.aload_n 1, 1) := by decide +kernel
theorem d_ArrayList_fastRemove_23 : decode prog_15_method_39_code 23 = .ok (.iload_n 2, 1) := by decide +kernel
theorem d_ArrayList_fastRemove_24 : decode prog_15_method_39_code 24 = .ok (.iconst 1, 1) := by decide +kernel
theorem d_ArrayList_fastRemove_25 : decode prog_15_method_39_code 25 = .ok (.iadd, 1) := by decide +kernel
theorem d_ArrayList_fastRemove_26 : decode prog_15_method_39_code 26 = .ok (.aload_n 1, 1) := by decide +kernel
theorem d_ArrayList_fastRemove_27 : decode prog_15_method_39_code 27 = .ok (.iload_n 2, 1) := by decide +kernel
theorem d_ArrayList_fastRemove_28 : decode prog_15_method_39_code 28 = .ok (.iload_n 3, 1) := by decide +kernel
theorem d_ArrayList_fastRemove_29 : decode prog_15_method_39_code 29 = .ok (.iload_n 2, 1) := by decide +kernel
theorem d_ArrayList_fastRemove_30 : decode prog_15_method_39_code 30 = .ok (.isub, 1) := by decide +kernel
theorem d_ArrayList_fastRemove_31 : decode prog_15_method_39_code 31 = .ok (.invokestatic 112, 3) := by decide +kernel
theorem d_ArrayList_fastRemove_34 : decode prog_15_method_39_code 34 = .ok (.aload_n 1, 1) := by decide +kernel
theorem d_ArrayList_fastRemove_35 : decode prog_15_method_39_code 35 = .ok (.aload_n 0, 1) := by decide +kernel
theorem d_ArrayList_fastRemove_36 : decode prog_15_method_39_code 36 = .ok (.iload_n 3, 1) := by decide +kernel
theorem d_ArrayList_fastRemove_37 : decode prog_15_method_39_code 37 = .ok (.dup_x1, 1) := by decide +kernel
theorem d_ArrayList_fastRemove_38 : decode prog_15_method_39_code 38 = .ok (.putfield 48, 3) := by decide +kernel
theorem d_ArrayList_fastRemove_41 : decode prog_15_method_39_code 41 = .ok (.aconst_null, 1) := by decide +kernel
theorem d_ArrayList_fastRemove_42 : decode prog_15_method_39_code 42 = .ok (.aastore, 1) := by decide +kernel
theorem d_ArrayList_fastRemove_43 : decode prog_15_method_39_code 43 = .ok (.return_, 1) := by decide +kernel
theorem d_ContentStore_refer_0 : decode prog_1_method_13_code 0 = .ok (.iload_n 1, 1) := by decide +kernel
theorem d_ContentStore_refer_1 : decode prog_1_method_13_code 1 = .ok (.ifCond .lt 25, 3) := by decide +kernel
theorem d_ContentStore_refer_4 : decode prog_1_method_13_code 4 = .ok (.iload_n 1, 1) := by decide +kernel
theorem d_ContentStore_refer_5 : decode prog_1_method_13_code 5 = .ok (.aload_n 0, 1) := by decide +kernel
theorem d_ContentStore_refer_6 : decode prog_1_method_13_code 6 = .ok (.getfield 39, 3) := by decide +kernel
theorem d_ContentStore_refer_9 : decode prog_1_method_13_code 9 = .ok (.arraylength, 1) := by decide +kernel
theorem d_ContentStore_refer_10 : decode prog_1_method_13_code 10 = .ok (.if_icmp .ge 16, 3) := by decide +kernel
theorem d_ContentStore_refer_13 : decode prog_1_method_13_code 13 = .ok (.iload_n 2, 1) := by decide +kernel
theorem d_ContentStore_refer_14 : decode prog_1_method_13_code 14 = .ok (.iconst (-1), 1) := by decide +kernel
theorem d_ContentStore_refer_15 : decode prog_1_method_13_code 15 = .ok (.if_icmp .eq 13, 3) := by decide +kernel
theorem d_ContentStore_refer_18 : decode prog_1_method_13_code 18 = .ok (.aload_n 0, 1) := by decide +kernel
theorem d_ContentStore_refer_19 : decode prog_1_method_13_code 19 = .ok (.iload_n 2, 1) := by decide +kernel
theorem d_ContentStore_refer_20 : decode prog_1_method_13_code 20 = .ok (.invokevirtual 86, 3) := by decide +kernel
theorem d_ContentStore_refer_23 : decode prog_1_method_13_code 23 = .ok (.ifnonnull 5, 3) := by decide +kernel
theorem d_ContentStore_refer_26 : decode prog_1_method_13_code 26 = .ok (.iconst 0, 1) := by decide +kernel
theorem d_ContentStore_refer_27 : decode prog_1_method_13_code 27 = .ok (.ireturn, 1) := by decide +kernel
theorem d_ContentStore_refer_28 : decode prog_1_method_13_code 28 = .ok (.aload_n 0, 1) := by decide +kernel
theorem d_ContentStore_refer_29 : decode prog_1_method_13_code 29 = .ok (.getfield 39, 3) := by decide +kernel
theorem d_ContentStore_refer_32 : decode prog_1_method_13_code 32 = .ok (.iload_n 1, 1) := by decide +kernel
theorem d_ContentStore_refer_33 : decode prog_1_method_13_code 33 = .ok (.iload_n 2, 1) := by decide +kernel
theorem d_ContentStore_refer_34 : decode prog_1_method_13_code 34 = .ok (.iastore, 1) := by decide +kernel
theorem d_ContentStore_refer_35 : decode prog_1_method_13_code 35 = .ok (.iconst 1, 1) := by decide +kernel
theorem d_ContentStore_refer_36 : decode prog_1_method_13_code 36 = .ok (.ireturn, 1) := by decide +kernel
theorem d_ContentStore_referred_0 : decode prog_1_method_14_code 0 = .ok (.iload_n 1, 1) := by decide +kernel
theorem d_ContentStore_referred_1 : decode prog_1_method_14_code 1 = .ok (.ifCond .lt 12, 3) := by decide +kernel
theorem d_ContentStore_referred_4 : decode prog_1_method_14_code 4 = .ok (.iload_n 1, 1) := by decide +kernel
theorem d_ContentStore_referred_5 : decode prog_1_method_14_code 5 = .ok (.aload_n 0, 1) := by decide +kernel
theorem d_ContentStore_referred_6 : decode prog_1_method_14_code 6 = .ok (.getfield 39, 3) := by decide +kernel
theorem d_ContentStore_referred_9 : decode prog_1_method_14_code 9 = .ok (.arraylength, 1) := by decide +kernel
theorem d_ContentStore_referred_10 : decode prog_1_method_14_code 10 = .ok (.if_icmp .lt 7, 3) := by decide +kernel
theorem d_ContentStore_referred_13 : decode prog_1_method_14_code 13 = .ok (.iconst (-1), 1) := by decide +kernel
theorem d_ContentStore_referred_14 : decode prog_1_method_14_code 14 = .ok (.goto 9, 3) := by decide +kernel
theorem d_ContentStore_referred_17 : decode prog_1_method_14_code 17 = .ok (.aload_n 0, 1) := by decide +kernel
theorem d_ContentStore_referred_18 : decode prog_1_method_14_code 18 = .ok (.getfield 39, 3) := by decide +kernel
theorem d_ContentStore_referred_21 : decode prog_1_method_14_code 21 = .ok (.iload_n 1, 1) := by decide +kernel
theorem d_ContentStore_referred_22 : decode prog_1_method_14_code 22 = .ok (.iaload, 1) := by decide +kernel
theorem d_ContentStore_referred_23 : decode prog_1_method_14_code 23 = .ok (.ireturn, 1) := by decide +kernel
theorem d_ContentStore_sweep_0 : decode prog_1_method_15_code 0 = .ok (.iconst 0, 1) := by decide +kernel
theorem d_ContentStore_sweep_1 : decode prog_1_method_15_code 1 = .ok (.istore_n 1, 1) := by decide +kernel
theorem d_ContentStore_sweep_2 : decode prog_1_method_15_code 2 = .ok (.iconst 0, 1) := by decide +kernel
theorem d_ContentStore_sweep_3 : decode prog_1_method_15_code 3 = .ok (.istore_n 2, 1) := by decide +kernel
theorem d_ContentStore_sweep_4 : decode prog_1_method_15_code 4 = .ok (.iload_n 2, 1) := by decide +kernel
theorem d_ContentStore_sweep_5 : decode prog_1_method_15_code 5 = .ok (.aload_n 0, 1) := by decide +kernel
theorem d_ContentStore_sweep_6 : decode prog_1_method_15_code 6 = .ok (.getfield 139, 3) := by decide +kernel
theorem d_ContentStore_sweep_9 : decode prog_1_method_15_code 9 = .ok (.if_icmp .ge 43, 3) := by decide +kernel
theorem d_ContentStore_sweep_12 : decode prog_1_method_15_code 12 = .ok (.aload_n 0, 1) := by decide +kernel
theorem d_ContentStore_sweep_13 : decode prog_1_method_15_code 13 = .ok (.iload_n 2, 1) := by decide +kernel
theorem d_ContentStore_sweep_14 : decode prog_1_method_15_code 14 = .ok (.invokevirtual 86, 3) := by decide +kernel
theorem d_ContentStore_sweep_17 : decode prog_1_method_15_code 17 = .ok (.astore_n 3, 1) := by decide +kernel
theorem d_ContentStore_sweep_18 : decode prog_1_method_15_code 18 = .ok (.aload_n 3, 1) := by decide +kernel
theorem d_ContentStore_sweep_19 : decode prog_1_method_15_code 19 = .ok (.ifnull 27, 3) := by decide +kernel
theorem d_ContentStore_sweep_22 : decode prog_1_method_15_code 22 = .ok (.aload_n 3, 1) := by decide +kernel
theorem d_ContentStore_sweep_23 : decode prog_1_method_15_code 23 = .ok (.getfield 142, 3) := by decide +kernel
theorem d_ContentStore_sweep_26 : decode prog_1_method_15_code 26 = .ok (.iconst (-1), 1) := by decide +kernel
theorem d_ContentStore_sweep_27 : decode prog_1_method_15_code 27 = .ok (.if_icmp .ne 19, 3) := by decide +kernel
theorem d_ContentStore_sweep_30 : decode prog_1_method_15_code 30 = .ok (.aload_n 0, 1) := by decide +kernel
theorem d_ContentStore_sweep_31 : decode prog_1_method_15_code 31 = .ok (.iload_n 2, 1) := by decide +kernel
theorem d_ContentStore_sweep_32 : decode prog_1_method_15_code 32 = .ok (.invokevirtual 145, 3) := by decide +kernel
theorem d_ContentStore_sweep_35 : decode prog_1_method_15_code 35 = .ok (.ifCond .ne 11, 3) := by decide +kernel
theorem d_ContentStore_sweep_38 : decode prog_1_method_15_code 38 = .ok (.aload_n 0, 1) := by decide +kernel
theorem d_ContentStore_sweep_39 : decode prog_1_method_15_code 39 = .ok (.aload_n 3, 1) := by decide +kernel
theorem d_ContentStore_sweep_40 : decode prog_1_method_15_code 40 = .ok (.invokevirtual 149, 3) := by decide +kernel
theorem d_ContentStore_sweep_43 : decode prog_1_method_15_code 43 = .ok (.iinc 1 1, 3) := by decide +kernel
theorem d_ContentStore_sweep_46 : decode prog_1_method_15_code 46 = .ok (.iinc 2 1, 3) := by decide +kernel
theorem d_ContentStore_sweep_49 : decode prog_1_method_15_code 49 = .ok (.goto (-45), 3) := by decide +kernel
theorem d_ContentStore_sweep_52 : decode prog_1_method_15_code 52 = .ok (.iload_n 1, 1) := by decide +kernel
theorem d_ContentStore_sweep_53 : decode prog_1_method_15_code 53 = .ok (.ireturn, 1) := by decide +kernel
theorem d_ContentStore_isReferredTo_0 : decode prog_1_method_25_code 0 = .ok (.iconst 0, 1) := by decide +kernel
theorem d_ContentStore_isReferredTo_1 : decode prog_1_method_25_code 1 = .ok (.istore_n 2, 1) := by decide +kernel
theorem d_ContentStore_isReferredTo_2 : decode prog_1_method_25_code 2 = .ok (.iload_n 2, 1) := by decide +kernel
theorem d_ContentStore_isReferredTo_3 : decode prog_1_method_25_code 3 = .ok (.aload_n 0, 1) := by decide +kernel
theorem d_ContentStore_isReferredTo_4 : decode prog_1_method_25_code 4 = .ok (.getfield 39, 3) := by decide +kernel
theorem d_ContentStore_isReferredTo_7 : decode prog_1_method_25_code 7 = .ok (.arraylength, 1) := by decide +kernel
theorem d_ContentStore_isReferredTo_8 : decode prog_1_method_25_code 8 = .ok (.if_icmp .ge 21, 3) := by decide +kernel
theorem d_ContentStore_isReferredTo_11 : decode prog_1_method_25_code 11 = .ok (.aload_n 0, 1) := by decide +kernel
theorem d_ContentStore_isReferredTo_12 : decode prog_1_method_25_code 12 = .ok (.getfield 39, 3) := by decide +kernel
theorem d_ContentStore_isReferredTo_15 : decode prog_1_method_25_code 15 = .ok (.iload_n 2, 1) := by decide +kernel
theorem d_ContentStore_isReferredTo_16 : decode prog_1_method_25_code 16 = .ok (.iaload, 1) := by decide +kernel
theorem d_ContentStore_isReferredTo_17 : decode prog_1_method_25_code 17 = .ok (.iload_n 1, 1) := by decide +kernel
theorem d_ContentStore_isReferredTo_18 : decode prog_1_method_25_code 18 = .ok (.if_icmp .ne 5, 3) := by decide +kernel
theorem d_ContentStore_isReferredTo_21 : decode prog_1_method_25_code 21 = .ok (.iconst 1, 1) := by decide +kernel
theorem d_ContentStore_isReferredTo_22 : decode prog_1_method_25_code 22 = .ok (.ireturn, 1) := by decide +kernel
theorem d_ContentStore_isReferredTo_23 : decode prog_1_method_25_code 23 = .ok (.iinc 2 1, 3) := by decide +kernel
theorem d_ContentStore_isReferredTo_26 : decode prog_1_method_25_code 26 = .ok (.goto (-24), 3) := by decide +kernel
theorem d_ContentStore_isReferredTo_29 : decode prog_1_method_25_code 29 = .ok (.iconst 0, 1) := by decide +kernel
theorem d_ContentStore_isReferredTo_30 : decode prog_1_method_25_code 30 = .ok (.ireturn, 1) := by decide +kernel
theorem d_ContentStore_letGo_0 : decode prog_1_method_24_code 0 = .ok (.aload_n 1, 1) := by decide +kernel
theorem d_ContentStore_letGo_1 : decode prog_1_method_24_code 1 = .ok (.iconst 0, 1) := by decide +kernel
theorem d_ContentStore_letGo_2 : decode prog_1_method_24_code 2 = .ok (.putfield 176, 3) := by decide +kernel
theorem d_ContentStore_letGo_5 : decode prog_1_method_24_code 5 = .ok (.aload_n 0, 1) := by decide +kernel
theorem d_ContentStore_letGo_6 : decode prog_1_method_24_code 6 = .ok (.getfield 23, 3) := by decide +kernel
theorem d_ContentStore_letGo_9 : decode prog_1_method_24_code 9 = .ok (.aload_n 1, 1) := by decide +kernel
theorem d_ContentStore_letGo_10 : decode prog_1_method_24_code 10 = .ok (.getfield 127, 3) := by decide +kernel
theorem d_ContentStore_letGo_13 : decode prog_1_method_24_code 13 = .ok (.invokevirtual 135, 3) := by decide +kernel
theorem d_ContentStore_letGo_16 : decode prog_1_method_24_code 16 = .ok (.return_, 1) := by decide +kernel
theorem d_ContentStore_pack_0 : decode prog_1_method_16_code 0 = .ok (.aload_n 0, 1) := by decide +kernel
theorem d_ContentStore_pack_1 : decode prog_1_method_16_code 1 = .ok (.getfield 153, 3) := by decide +kernel
theorem d_ContentStore_pack_4 : decode prog_1_method_16_code 4 = .ok (.bipush 12, 2) := by decide +kernel
