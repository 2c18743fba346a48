theorem d_ContentStore_pack_6 : decode prog_1_method_16_code 6 = .ok (.if_icmp .lt 5, 3) := by decide +kernel
theorem d_ContentStore_pack_9 : decode prog_1_method_16_code 9 = .ok (.iconst (-1), 1) := by decide +kernel
theorem d_ContentStore_pack_10 : decode prog_1_method_16_code 10 = .ok (.ireturn, 1) := by decide +kernel
theorem d_ContentStore_pack_11 : decode prog_1_method_16_code 11 = .ok (.iconst 0, 1) := by decide +kernel
theorem d_ContentStore_pack_12 : decode prog_1_method_16_code 12 = .ok (.istore_n 1, 1) := by decide +kernel
theorem d_ContentStore_pack_13 : decode prog_1_method_16_code 13 = .ok (.iconst 0, 1) := by decide +kernel
theorem d_ContentStore_pack_14 : decode prog_1_method_16_code 14 = .ok (.istore_n 2, 1) := by decide +kernel
theorem d_ContentStore_pack_15 : decode prog_1_method_16_code 15 = .ok (.iload_n 2, 1) := by decide +kernel
theorem d_ContentStore_pack_16 : decode prog_1_method_16_code 16 = .ok (.aload_n 0, 1) := by decide +kernel
theorem d_ContentStore_pack_17 : decode prog_1_method_16_code 17 = .ok (.getfield 139, 3) := by decide +kernel
theorem d_ContentStore_pack_20 : decode prog_1_method_16_code 20 = .ok (.if_icmp .ge 37, 3) := by decide +kernel
theorem d_ContentStore_pack_23 : decode prog_1_method_16_code 23 = .ok (.aload_n 0, 1) := by decide +kernel
theorem d_ContentStore_pack_24 : decode prog_1_method_16_code 24 = .ok (.iload_n 2, 1) := by decide +kernel
theorem d_ContentStore_pack_25 : decode prog_1_method_16_code 25 = .ok (.invokevirtual 86, 3) := by decide +kernel
theorem d_ContentStore_pack_28 : decode prog_1_method_16_code 28 = .ok (.astore_n 3, 1) := by decide +kernel
theorem d_ContentStore_pack_29 : decode prog_1_method_16_code 29 = .ok (.aload_n 3, 1) := by decide +kernel
theorem d_ContentStore_pack_30 : decode prog_1_method_16_code 30 = .ok (.ifnull 21, 3) := by decide +kernel
theorem d_ContentStore_pack_33 : decode prog_1_method_16_code 33 = .ok (.aload_n 3, 1) := by decide +kernel
theorem d_ContentStore_pack_34 : decode prog_1_method_16_code 34 = .ok (.getfield 142, 3) := by decide +kernel
theorem d_ContentStore_pack_37 : decode prog_1_method_16_code 37 = .ok (.iconst (-1), 1) := by decide +kernel
theorem d_ContentStore_pack_38 : decode prog_1_method_16_code 38 = .ok (.if_icmp .ne 13, 3) := by decide +kernel
theorem d_ContentStore_pack_41 : decode prog_1_method_16_code 41 = .ok (.aload_n 3, 1) := by decide +kernel
theorem d_ContentStore_pack_42 : decode prog_1_method_16_code 42 = .ok (.aload_n 0, 1) := by decide +kernel
theorem d_ContentStore_pack_43 : decode prog_1_method_16_code 43 = .ok (.getfield 153, 3) := by decide +kernel
theorem d_ContentStore_pack_46 : decode prog_1_method_16_code 46 = .ok (.putfield 142, 3) := by decide +kernel
theorem d_ContentStore_pack_49 : decode prog_1_method_16_code 49 = .ok (.iconst 1, 1) := by decide +kernel
theorem d_ContentStore_pack_50 : decode prog_1_method_16_code 50 = .ok (.istore_n 1, 1) := by decide +kernel
theorem d_ContentStore_pack_51 : decode prog_1_method_16_code 51 = .ok (.iinc 2 1, 3) := by decide +kernel
theorem d_ContentStore_pack_54 : decode prog_1_method_16_code 54 = .ok (.goto (-39), 3) := by decide +kernel
theorem d_ContentStore_pack_57 : decode prog_1_method_16_code 57 = .ok (.iload_n 1, 1) := by decide +kernel
theorem d_ContentStore_pack_58 : decode prog_1_method_16_code 58 = .ok (.ifCond .ne 5, 3) := by decide +kernel
theorem d_ContentStore_pack_61 : decode prog_1_method_16_code 61 = .ok (.iconst (-1), 1) := by decide +kernel
theorem d_ContentStore_pack_62 : decode prog_1_method_16_code 62 = .ok (.ireturn, 1) := by decide +kernel
theorem d_ContentStore_pack_63 : decode prog_1_method_16_code 63 = .ok (.aload_n 0, 1) := by decide +kernel
theorem d_ContentStore_pack_64 : decode prog_1_method_16_code 64 = .ok (.dup, 1) := by decide +kernel
theorem d_ContentStore_pack_65 : decode prog_1_method_16_code 65 = .ok (.getfield 153, 3) := by decide +kernel
theorem d_ContentStore_pack_68 : decode prog_1_method_16_code 68 = .ok (.iconst 1, 1) := by decide +kernel
theorem d_ContentStore_pack_69 : decode prog_1_method_16_code 69 = .ok (.iadd, 1) := by decide +kernel
theorem d_ContentStore_pack_70 : decode prog_1_method_16_code 70 = .ok (.putfield 153, 3) := by decide +kernel
theorem d_ContentStore_pack_73 : decode prog_1_method_16_code 73 = .ok (.aload_n 0, 1) := by decide +kernel
theorem d_ContentStore_pack_74 : decode prog_1_method_16_code 74 = .ok (.getfield 153, 3) := by decide +kernel
theorem d_ContentStore_pack_77 : decode prog_1_method_16_code 77 = .ok (.iconst 1, 1) := by decide +kernel
theorem d_ContentStore_pack_78 : decode prog_1_method_16_code 78 = .ok (.isub, 1) := by decide +kernel
theorem d_ContentStore_pack_79 : decode prog_1_method_16_code 79 = .ok (.ireturn, 1) := by decide +kernel
theorem d_ContentStore_cut_0 : decode prog_1_method_17_code 0 = .ok (.iload_n 1, 1) := by decide +kernel
theorem d_ContentStore_cut_1 : decode prog_1_method_17_code 1 = .ok (.ifCond .lt 15, 3) := by decide +kernel
theorem d_ContentStore_cut_4 : decode prog_1_method_17_code 4 = .ok (.iload_n 1, 1) := by decide +kernel
theorem d_ContentStore_cut_5 : decode prog_1_method_17_code 5 = .ok (.aload_n 0, 1) := by decide +kernel
theorem d_ContentStore_cut_6 : decode prog_1_method_17_code 6 = .ok (.getfield 153, 3) := by decide +kernel
theorem d_ContentStore_cut_9 : decode prog_1_method_17_code 9 = .ok (.if_icmp .ge 7, 3) := by decide +kernel
theorem d_ContentStore_cut_12 : decode prog_1_method_17_code 12 = .ok (.iload_n 2, 1) := by decide +kernel
theorem d_ContentStore_cut_13 : decode prog_1_method_17_code 13 = .ok (.ifCond .ge 5, 3) := by decide +kernel
theorem d_ContentStore_cut_16 : decode prog_1_method_17_code 16 = .ok (.iconst (-1), 1) := by decide +kernel
theorem d_ContentStore_cut_17 : decode prog_1_method_17_code 17 = .ok (.ireturn, 1) := by decide +kernel
theorem d_ContentStore_cut_18 : decode prog_1_method_17_code 18 = .ok (.iconst 0, 1) := by decide +kernel
theorem d_ContentStore_cut_19 : decode prog_1_method_17_code 19 = .ok (.istore_n 3, 1) := by decide +kernel
theorem d_ContentStore_cut_20 : decode prog_1_method_17_code 20 = .ok (.iconst 0, 1) := by decide +kernel
theorem d_ContentStore_cut_21 : decode prog_1_method_17_code 21 = .ok (.istore 4, 2) := by decide +kernel
theorem d_ContentStore_cut_23 : decode prog_1_method_17_code 23 = .ok (.iconst 0, 1) := by decide +kernel
theorem d_ContentStore_cut_24 : decode prog_1_method_17_code 24 = .ok (.istore 5, 2) := by decide +kernel
theorem d_ContentStore_cut_26 : decode prog_1_method_17_code 26 = .ok (.iload 5, 2) := by decide +kernel
theorem d_ContentStore_cut_28 : decode prog_1_method_17_code 28 = .ok (.aload_n 0, 1) := by decide +kernel
theorem d_ContentStore_cut_29 : decode prog_1_method_17_code 29 = .ok (.getfield 139, 3) := by decide +kernel
theorem d_ContentStore_cut_32 : decode prog_1_method_17_code 32 = .ok (.if_icmp .ge 62, 3) := by decide +kernel
theorem d_ContentStore_cut_35 : decode prog_1_method_17_code 35 = .ok (.aload_n 0, 1) := by decide +kernel
theorem d_ContentStore_cut_36 : decode prog_1_method_17_code 36 = .ok (.iload 5, 2) := by decide +kernel
theorem d_ContentStore_cut_38 : decode prog_1_method_17_code 38 = .ok (.invokevirtual 86, 3) := by decide +kernel
theorem d_ContentStore_cut_41 : decode prog_1_method_17_code 41 = .ok (.astore 6, 2) := by decide +kernel
theorem d_ContentStore_cut_43 : decode prog_1_method_17_code 43 = .ok (.aload 6, 2) := by decide +kernel
theorem d_ContentStore_cut_45 : decode prog_1_method_17_code 45 = .ok (.ifnull 43, 3) := by decide +kernel
theorem d_ContentStore_cut_48 : decode prog_1_method_17_code 48 = .ok (.aload 6, 2) := by decide +kernel
theorem d_ContentStore_cut_50 : decode prog_1_method_17_code 50 = .ok (.getfield 142, 3) := by decide +kernel
theorem d_ContentStore_cut_53 : decode prog_1_method_17_code 53 = .ok (.iload_n 1, 1) := by decide +kernel
theorem d_ContentStore_cut_54 : decode prog_1_method_17_code 54 = .ok (.if_icmp .ne 34, 3) := by decide +kernel
theorem d_ContentStore_cut_57 : decode prog_1_method_17_code 57 = .ok (.iload 4, 2) := by decide +kernel
theorem d_ContentStore_cut_59 : decode prog_1_method_17_code 59 = .ok (.aload 6, 2) := by decide +kernel
theorem d_ContentStore_cut_61 : decode prog_1_method_17_code 61 = .ok (.getfield 94, 3) := by decide +kernel
theorem d_ContentStore_cut_64 : decode prog_1_method_17_code 64 = .ok (.iadd, 1) := by decide +kernel
theorem d_ContentStore_cut_65 : decode prog_1_method_17_code 65 = .ok (.istore 4, 2) := by decide +kernel
theorem d_ContentStore_cut_67 : decode prog_1_method_17_code 67 = .ok (.iload 4, 2) := by decide +kernel
theorem d_ContentStore_cut_69 : decode prog_1_method_17_code 69 = .ok (.iload_n 2, 1) := by decide +kernel
theorem d_ContentStore_cut_70 : decode prog_1_method_17_code 70 = .ok (.if_icmp .le 18, 3) := by decide +kernel
theorem d_ContentStore_cut_73 : decode prog_1_method_17_code 73 = .ok (.aload_n 0, 1) := by decide +kernel
theorem d_ContentStore_cut_74 : decode prog_1_method_17_code 74 = .ok (.aload 6, 2) := by decide +kernel
theorem d_ContentStore_cut_76 : decode prog_1_method_17_code 76 = .ok (.invokevirtual 149, 3) := by decide +kernel
theorem d_ContentStore_cut_79 : decode prog_1_method_17_code 79 = .ok (.aload_n 0, 1) := by decide +kernel
theorem d_ContentStore_cut_80 : decode prog_1_method_17_code 80 = .ok (.iload 5, 2) := by decide +kernel
theorem d_ContentStore_cut_82 : decode prog_1_method_17_code 82 = .ok (.invokevirtual 156, 3) := by decide +kernel
theorem d_ContentStore_cut_85 : decode prog_1_method_17_code 85 = .ok (.iinc 3 1, 3) := by decide +kernel
theorem d_ContentStore_cut_88 : decode prog_1_method_17_code 88 = .ok (.iinc 5 1, 3) := by decide +kernel
theorem d_ContentStore_cut_91 : decode prog_1_method_17_code 91 = .ok (.goto (-65), 3) := by decide +kernel
theorem d_ContentStore_cut_94 : decode prog_1_method_17_code 94 = .ok (.iload_n 3, 1) := by decide +kernel
theorem d_ContentStore_cut_95 : decode prog_1_method_17_code 95 = .ok (.ireturn, 1) := by decide +kernel
theorem d_ContentStore_forget_0 : decode prog_1_method_26_code 0 = .ok (.iconst 0, 1) := by decide +kernel
theorem d_ContentStore_forget_1 : decode prog_1_method_26_code 1 = .ok (.istore_n 2, 1) := by decide +kernel
theorem d_ContentStore_forget_2 : decode prog_1_method_26_code 2 = .ok (.iload_n 2, 1) := by decide +kernel
theorem d_ContentStore_forget_3 : decode prog_1_method_26_code 3 = .ok (.aload_n 0, 1) := by decide +kernel
theorem d_ContentStore_forget_4 : decode prog_1_method_26_code 4 = .ok (.getfield 39, 3) := by decide +kernel
theorem d_ContentStore_forget_7 : decode prog_1_method_26_code 7 = .ok (.arraylength, 1) := by decide +kernel
theorem d_ContentStore_forget_8 : decode prog_1_method_26_code 8 = .ok (.if_icmp .ge 26, 3) := by decide +kernel
theorem d_ContentStore_forget_11 : decode prog_1_method_26_code 11 = .ok (.aload_n 0, 1) := by decide +kernel
theorem d_ContentStore_forget_12 : decode prog_1_method_26_code 12 = .ok (.getfield 39, 3) := by decide +kernel
theorem d_ContentStore_forget_15 : decode prog_1_method_26_code 15 = .ok (.iload_n 2, 1) := by decide +kernel
theorem d_ContentStore_forget_16 : decode prog_1_method_26_code 16 = .ok (.iaload, 1) := by decide +kernel
theorem d_ContentStore_forget_17 : decode prog_1_method_26_code 17 = .ok (.iload_n 1, 1) := by decide +kernel
theorem d_ContentStore_forget_18 : decode prog_1_method_26_code 18 = .ok (.if_icmp .ne 10, 3) := by decide +kernel
theorem d_ContentStore_forget_21 : decode prog_1_method_26_code 21 = .ok (.aload_n 0, 1) := by decide +kernel
theorem d_ContentStore_forget_22 : decode prog_1_method_26_code 22 = .ok (.getfield 39, 3) := by decide +kernel
theorem d_ContentStore_forget_25 : decode prog_1_method_26_code 25 = .ok (.iload_n 2, 1) := by decide +kernel
theorem d_ContentStore_forget_26 : decode prog_1_method_26_code 26 = .ok (.iconst (-1), 1) := by decide +kernel
theorem d_ContentStore_forget_27 : decode prog_1_method_26_code 27 = .ok (.iastore, 1) := by decide +kernel
theorem d_ContentStore_forget_28 : decode prog_1_method_26_code 28 = .ok (.iinc 2 1, 3) := by decide +kernel
theorem d_ContentStore_forget_31 : decode prog_1_method_26_code 31 = .ok (.goto (-29), 3) := by decide +kernel
theorem d_ContentStore_forget_34 : decode prog_1_method_26_code 34 = .ok (.return_, 1) := by decide +kernel
theorem d_ContentStore_packOf_0 : decode prog_1_method_18_code 0 = .ok (.aload_n 0, 1) := by decide +kernel
theorem d_ContentStore_packOf_1 : decode prog_1_method_18_code 1 = .ok (.iload_n 1, 1) := by decide +kernel
theorem d_ContentStore_packOf_2 : decode prog_1_method_18_code 2 = .ok (.invokevirtual 86, 3) := by decide +kernel
theorem d_ContentStore_packOf_5 : decode prog_1_method_18_code 5 = .ok (.astore_n 2, 1) := by decide +kernel
theorem d_ContentStore_packOf_6 : decode prog_1_method_18_code 6 = .ok (.aload_n 2, 1) := by decide +kernel
theorem d_ContentStore_packOf_7 : decode prog_1_method_18_code 7 = .ok (.ifnonnull 7, 3) := by decide +kernel
theorem d_ContentStore_packOf_10 : decode prog_1_method_18_code 10 = .ok (.iconst (-1), 1) := by decide +kernel
theorem d_ContentStore_packOf_11 : decode prog_1_method_18_code 11 = .ok (.goto 7, 3) := by decide +kernel
theorem d_ContentStore_packOf_14 : decode prog_1_method_18_code 14 = .ok (.aload_n 2, 1) := by decide +kernel
theorem d_ContentStore_packOf_15 : decode prog_1_method_18_code 15 = .ok (.getfield 142, 3) := by decide +kernel
theorem d_ContentStore_packOf_18 : decode prog_1_method_18_code 18 = .ok (.ireturn, 1) := by decide +kernel
theorem d_ContentStore_count_0 : decode prog_1_method_19_code 0 = .ok (.iload_n 1, 1) := by decide +kernel
theorem d_ContentStore_count_1 : decode prog_1_method_19_code 1 = .ok (.ifCond .ge 5, 3) := by decide +kernel
theorem d_ContentStore_count_4 : decode prog_1_method_19_code 4 = .ok (.iconst (-1), 1) := by decide +kernel
theorem d_ContentStore_count_5 : decode prog_1_method_19_code 5 = .ok (.ireturn, 1) := by decide +kernel
theorem d_ContentStore_count_6 : decode prog_1_method_19_code 6 = .ok (.iload_n 1, 1) := by decide +kernel
theorem d_ContentStore_count_7 : decode prog_1_method_19_code 7 = .ok (.tableswitch 49 0 2 #[25, 36, 44], 25) := by decide +kernel
theorem d_ContentStore_count_32 : decode prog_1_method_19_code 32 = .ok (.aload_n 0, 1) := by decide +kernel
theorem d_ContentStore_count_33 : decode prog_1_method_19_code 33 = .ok (.getfield 23, 3) := by decide +kernel
theorem d_ContentStore_count_36 : decode prog_1_method_19_code 36 = .ok (.getfield 159, 3) := by decide +kernel
theorem d_ContentStore_count_39 : decode prog_1_method_19_code 39 = .ok (.invokevirtual 162, 3) := by decide +kernel
theorem d_ContentStore_count_42 : decode prog_1_method_19_code 42 = .ok (.ireturn, 1) := by decide +kernel
theorem d_ContentStore_count_43 : decode prog_1_method_19_code 43 = .ok (.aload_n 0, 1) := by decide +kernel
theorem d_ContentStore_count_44 : decode prog_1_method_19_code 44 = .ok (.getfield 23, 3) := by decide +kernel
theorem d_ContentStore_count_47 : decode prog_1_method_19_code 47 = .ok (.getfield 167, 3) := by decide +kernel
theorem d_ContentStore_count_50 : decode prog_1_method_19_code 50 = .ok (.ireturn, 1) := by decide +kernel
theorem d_ContentStore_count_51 : decode prog_1_method_19_code 51 = .ok (.aload_n 0, 1) := by decide +kernel
theorem d_ContentStore_count_52 : decode prog_1_method_19_code 52 = .ok (.invokevirtual 170, 3) := by decide +kernel
theorem d_ContentStore_count_55 : decode prog_1_method_19_code 55 = .ok (.ireturn, 1) := by decide +kernel
theorem d_ContentStore_count_56 : decode prog_1_method_19_code 56 = .ok (.aload_n 0, 1) := by decide +kernel
theorem d_ContentStore_count_57 : decode prog_1_method_19_code 57 = .ok (.iload_n 1, 1) := by decide +kernel
theorem d_ContentStore_count_58 : decode prog_1_method_19_code 58 = .ok (.iconst 3, 1) := by decide +kernel
theorem d_ContentStore_count_59 : decode prog_1_method_19_code 59 = .ok (.isub, 1) := by decide +kernel
theorem d_ContentStore_count_60 : decode prog_1_method_19_code 60 = .ok (.invokevirtual 173, 3) := by decide +kernel
theorem d_ContentStore_count_63 : decode prog_1_method_19_code 63 = .ok (.ireturn, 1) := by decide +kernel
theorem d_ContentStore_blobsThere_0 : decode prog_1_method_27_code 0 = .ok (.iconst 0, 1) := by decide +kernel
theorem d_ContentStore_blobsThere_1 : decode prog_1_method_27_code 1 = .ok (.istore_n 1, 1) := by decide +kernel
theorem d_ContentStore_blobsThere_2 : decode prog_1_method_27_code 2 = .ok (.iconst 0, 1) := by decide +kernel
theorem d_ContentStore_blobsThere_3 : decode prog_1_method_27_code 3 = .ok (.istore_n 2, 1) := by decide +kernel
theorem d_ContentStore_blobsThere_4 : decode prog_1_method_27_code 4 = .ok (.iload_n 2, 1) := by decide +kernel
theorem d_ContentStore_blobsThere_5 : decode prog_1_method_27_code 5 = .ok (.aload_n 0, 1) := by decide +kernel
theorem d_ContentStore_blobsThere_6 : decode prog_1_method_27_code 6 = .ok (.getfield 139, 3) := by decide +kernel
theorem d_ContentStore_blobsThere_9 : decode prog_1_method_27_code 9 = .ok (.if_icmp .ge 20, 3) := by decide +kernel
theorem d_ContentStore_blobsThere_12 : decode prog_1_method_27_code 12 = .ok (.aload_n 0, 1) := by decide +kernel
theorem d_ContentStore_blobsThere_13 : decode prog_1_method_27_code 13 = .ok (.iload_n 2, 1) := by decide +kernel
theorem d_ContentStore_blobsThere_14 : decode prog_1_method_27_code 14 = .ok (.invokevirtual 86, 3) := by decide +kernel
theorem d_ContentStore_blobsThere_17 : decode prog_1_method_27_code 17 = .ok (.ifnull 6, 3) := by decide +kernel
theorem d_ContentStore_blobsThere_20 : decode prog_1_method_27_code 20 = .ok (.iinc 1 1, 3) := by decide +kernel
theorem d_ContentStore_blobsThere_23 : decode prog_1_method_27_code 23 = .ok (.iinc 2 1, 3) := by decide +kernel
theorem d_ContentStore_blobsThere_26 : decode prog_1_method_27_code 26 = .ok (.goto (-22), 3) := by decide +kernel
theorem d_ContentStore_blobsThere_29 : decode prog_1_method_27_code 29 = .ok (.iload_n 1, 1) := by decide +kernel
theorem d_ContentStore_blobsThere_30 : decode prog_1_method_27_code 30 = .ok (.ireturn, 1) := by decide +kernel
theorem d_ContentStore_sharersOfFirst_0 : decode prog_1_method_28_code 0 = .ok (.aload_n 0, 1) := by decide +kernel
theorem d_ContentStore_sharersOfFirst_1 : decode prog_1_method_28_code 1 = .ok (.iload_n 1, 1) := by decide +kernel
theorem d_ContentStore_sharersOfFirst_2 : decode prog_1_method_28_code 2 = .ok (.invokevirtual 86, 3) := by decide +kernel
theorem d_ContentStore_sharersOfFirst_5 : decode prog_1_method_28_code 5 = .ok (.astore_n 2, 1) := by decide +kernel
theorem d_ContentStore_sharersOfFirst_6 : decode prog_1_method_28_code 6 = .ok (.aload_n 2, 1) := by decide +kernel
theorem d_ContentStore_sharersOfFirst_7 : decode prog_1_method_28_code 7 = .ok (.ifnonnull 7, 3) := by decide +kernel
theorem d_ContentStore_sharersOfFirst_10 : decode prog_1_method_28_code 10 = .ok (.aconst_null, 1) := by decide +kernel
theorem d_ContentStore_sharersOfFirst_11 : decode prog_1_method_28_code 11 = .ok (.goto 8, 3) := by decide +kernel
theorem d_ContentStore_sharersOfFirst_14 : decode prog_1_method_28_code 14 = .ok (.aload_n 2, 1) := by decide +kernel
theorem d_ContentStore_sharersOfFirst_15 : decode prog_1_method_28_code 15 = .ok (.iconst 0, 1) := by decide +kernel
theorem d_ContentStore_sharersOfFirst_16 : decode prog_1_method_28_code 16 = .ok (.invokevirtual 97, 3) := by decide +kernel
theorem d_ContentStore_sharersOfFirst_19 : decode prog_1_method_28_code 19 = .ok (.astore_n 3, 1) := by decide +kernel
theorem d_ContentStore_sharersOfFirst_20 : decode prog_1_method_28_code 20 = .ok (.aload_n 3, 1) := by decide +kernel
theorem d_ContentStore_sharersOfFirst_21 : decode prog_1_method_28_code 21 = .ok (.ifnonnull 5, 3) := by decide +kernel
theorem d_ContentStore_sharersOfFirst_24 : decode prog_1_method_28_code 24 = .ok (.iconst (-1), 1) := by decide +kernel
theorem d_ContentStore_sharersOfFirst_25 : decode prog_1_method_28_code 25 = .ok (.ireturn, 1) := by decide +kernel
theorem d_ContentStore_sharersOfFirst_26 : decode prog_1_method_28_code 26 = .ok (.iconst 0, 1) := by decide +kernel
theorem d_ContentStore_sharersOfFirst_27 : decode prog_1_method_28_code 27 = .ok (.istore 4, 2) := by decide +kernel
theorem d_ContentStore_sharersOfFirst_29 : decode prog_1_method_28_code 29 = .ok (.iconst 0, 1) := by decide +kernel
theorem d_ContentStore_sharersOfFirst_30 : decode prog_1_method_28_code 30 = .ok (.istore 5, 2) := by decide +kernel
theorem d_ContentStore_sharersOfFirst_32 : decode prog_1_method_28_code 32 = .ok (.iload 5, 2) := by decide +kernel
theorem d_ContentStore_sharersOfFirst_34 : decode prog_1_method_28_code 34 = .ok (.aload_n 0, 1) := by decide +kernel
theorem d_ContentStore_sharersOfFirst_35 : decode prog_1_method_28_code 35 = .ok (.getfield 139, 3) := by decide +kernel
theorem d_ContentStore_sharersOfFirst_38 : decode prog_1_method_28_code 38 = .ok (.if_icmp .ge 34, 3) := by decide +kernel
theorem d_ContentStore_sharersOfFirst_41 : decode prog_1_method_28_code 41 = .ok (.aload_n 0, 1) := by decide +kernel
theorem d_ContentStore_sharersOfFirst_42 : decode prog_1_method_28_code 42 = .ok (.iload 5, 2) := by decide +kernel
theorem d_ContentStore_sharersOfFirst_44 : decode prog_1_method_28_code 44 = .ok (.invokevirtual 86, 3) := by decide +kernel
theorem d_ContentStore_sharersOfFirst_47 : decode prog_1_method_28_code 47 = .ok (.astore 6, 2) := by decide +kernel
theorem d_ContentStore_sharersOfFirst_49 : decode prog_1_method_28_code 49 = .ok (.aload 6, 2) := by decide +kernel
theorem d_ContentStore_sharersOfFirst_51 : decode prog_1_method_28_code 51 = .ok (.ifnull 15, 3) := by decide +kernel
theorem d_ContentStore_sharersOfFirst_54 : decode prog_1_method_28_code 54 = .ok (.aload 6, 2) := by decide +kernel
theorem d_ContentStore_sharersOfFirst_56 : decode prog_1_method_28_code 56 = .ok (.aload_n 3, 1) := by decide +kernel
theorem d_ContentStore_sharersOfFirst_57 : decode prog_1_method_28_code 57 = .ok (.invokevirtual 185, 3) := by decide +kernel
theorem d_ContentStore_sharersOfFirst_60 : decode prog_1_method_28_code 60 = .ok (.ifCond .eq 6, 3) := by decide +kernel
theorem d_ContentStore_sharersOfFirst_63 : decode prog_1_method_28_code 63 = .ok (.iinc 4 1, 3) := by decide +kernel
theorem d_ContentStore_sharersOfFirst_66 : decode prog_1_method_28_code 66 = .ok (.iinc 5 1, 3) := by decide +kernel
theorem d_ContentStore_sharersOfFirst_69 : decode prog_1_method_28_code 69 = .ok (.goto (-37), 3) := by decide +kernel
theorem d_ContentStore_sharersOfFirst_72 : decode prog_1_method_28_code 72 = .ok (.iload 4, 2) := by decide +kernel
theorem d_ContentStore_sharersOfFirst_74 : decode prog_1_method_28_code 74 = .ok (.ireturn, 1) := by decide +kernel
theorem d_Blob_hasPart_0 : decode prog_2_method_3_code 0 = .ok (.iconst 0, 1) := by decide +kernel
theorem d_Blob_hasPart_1 : decode prog_2_method_3_code 1 = .ok (.istore_n 2, 1) := by decide +kernel
theorem d_Blob_hasPart_2 : decode prog_2_method_3_code 2 = .ok (.iload_n 2, 1) := by decide +kernel
theorem d_Blob_hasPart_3 : decode prog_2_method_3_code 3 = .ok (.aload_n 0, 1) := by decide +kernel
theorem d_Blob_hasPart_4 : decode prog_2_method_3_code 4 = .ok (.getfield 30, 3) := by decide +kernel
theorem d_Blob_hasPart_7 : decode prog_2_method_3_code 7 = .ok (.arraylength, 1) := by decide +kernel
theorem d_Blob_hasPart_8 : decode prog_2_method_3_code 8 = .ok (.if_icmp .ge 21, 3) := by decide +kernel
theorem d_Blob_hasPart_11 : decode prog_2_method_3_code 11 = .ok (.aload_n 0, 1) := by decide +kernel
theorem d_Blob_hasPart_12 : decode prog_2_method_3_code 12 = .ok (.getfield 30, 3) := by decide +kernel
theorem d_Blob_hasPart_15 : decode prog_2_method_3_code 15 = .ok (.iload_n 2, 1) := by decide +kernel
theorem d_Blob_hasPart_16 : decode prog_2_method_3_code 16 = .ok (.aaload, 1) := by decide +kernel
theorem d_Blob_hasPart_17 : decode prog_2_method_3_code 17 = .ok (.aload_n 1, 1) := by decide +kernel
theorem d_Blob_hasPart_18 : decode prog_2_method_3_code 18 = .ok (.if_acmp .ne 5, 3) := by decide +kernel
theorem d_Blob_hasPart_21 : decode prog_2_method_3_code 21 = .ok (.iconst 1, 1) := by decide +kernel
theorem d_Blob_hasPart_22 : decode prog_2_method_3_code 22 = .ok (.ireturn, 1) := by decide +kernel
theorem d_Blob_hasPart_23 : decode prog_2_method_3_code 23 = .ok (.iinc 2 1, 3) := by decide +kernel
theorem d_Blob_hasPart_26 : decode prog_2_method_3_code 26 = .ok (.goto (-24), 3) := by decide +kernel
theorem d_Blob_hasPart_29 : decode prog_2_method_3_code 29 = .ok (.iconst 0, 1) := by decide +kernel
theorem d_Blob_hasPart_30 : decode prog_2_method_3_code 30 = .ok (.ireturn, 1) := by decide +kernel
theorem d_ContentStoreLaw_cell_0 : decode method_2_code 0 = .ok (.iload_n 1, 1) := by decide +kernel
theorem d_ContentStoreLaw_cell_1 : decode method_2_code 1 = .ok (.aload_n 0, 1) := by decide +kernel
theorem d_ContentStoreLaw_cell_2 : decode method_2_code 2 = .ok (.arraylength, 1) := by decide +kernel
theorem d_ContentStoreLaw_cell_3 : decode method_2_code 3 = .ok (.if_icmp .ge 9, 3) := by decide +kernel
theorem d_ContentStoreLaw_cell_6 : decode method_2_code 6 = .ok (.aload_n 0, 1) := by decide +kernel
theorem d_ContentStoreLaw_cell_7 : decode method_2_code 7 = .ok (.iload_n 1, 1) := by decide +kernel
theorem d_ContentStoreLaw_cell_8 : decode method_2_code 8 = .ok (.iaload, 1) := by decide +kernel
theorem d_ContentStoreLaw_cell_9 : decode method_2_code 9 = .ok (.goto 4, 3) := by decide +kernel
theorem d_ContentStoreLaw_cell_12 : decode method_2_code 12 = .ok (.iconst 0, 1) := by decide +kernel
theorem d_ContentStoreLaw_cell_13 : decode method_2_code 13 = .ok (.ireturn, 1) := by decide +kernel
theorem d_ContentStoreModel_init_0 : decode prog_7_method_1_code 0 = .ok (.aload_n 0, 1) := by decide +kernel
theorem d_ContentStoreModel_init_1 : decode prog_7_method_1_code 1 = .ok (.invokespecial 1, 3) := by decide +kernel
theorem d_ContentStoreModel_init_4 : decode prog_7_method_1_code 4 = .ok (.aload_n 0, 1) := by decide +kernel
theorem d_ContentStoreModel_init_5 : decode prog_7_method_1_code 5 = .ok (.bipush 60, 2) := by decide +kernel
theorem d_ContentStoreModel_init_7 : decode prog_7_method_1_code 7 = .ok (.newarray .int, 2) := by decide +kernel
theorem d_ContentStoreModel_init_9 : decode prog_7_method_1_code 9 = .ok (.putfield 7, 3) := by decide +kernel
theorem d_ContentStoreModel_init_12 : decode prog_7_method_1_code 12 = .ok (.aload_n 0, 1) := by decide +kernel
theorem d_ContentStoreModel_init_13 : decode prog_7_method_1_code 13 = .ok (.bipush 60, 2) := by decide +kernel
theorem d_ContentStoreModel_init_15 : decode prog_7_method_1_code 15 = .ok (.newarray .long, 2) := by decide +kernel
theorem d_ContentStoreModel_init_17 : decode prog_7_method_1_code 17 = .ok (.putfield 13, 3) := by decide +kernel
theorem d_ContentStoreModel_init_20 : decode prog_7_method_1_code 20 = .ok (.aload_n 0, 1) := by decide +kernel
theorem d_ContentStoreModel_init_21 : decode prog_7_method_1_code 21 = .ok (.bipush 60, 2) := by decide +kernel
theorem d_ContentStoreModel_init_23 : decode prog_7_method_1_code 23 = .ok (.newarray .boolean, 2) := by decide +kernel
theorem d_ContentStoreModel_init_25 : decode prog_7_method_1_code 25 = .ok (.putfield 17, 3) := by decide +kernel
theorem d_ContentStoreModel_init_28 : decode prog_7_method_1_code 28 = .ok (.aload_n 0, 1) := by decide +kernel
theorem d_ContentStoreModel_init_29 : decode prog_7_method_1_code 29 = .ok (.bipush 60, 2) := by decide +kernel
theorem d_ContentStoreModel_init_31 : decode prog_7_method_1_code 31 = .ok (.newarray .int, 2) := by decide +kernel
theorem d_ContentStoreModel_init_33 : decode prog_7_method_1_code 33 = .ok (.putfield 21, 3) := by decide +kernel
theorem d_ContentStoreModel_init_36 : decode prog_7_method_1_code 36 = .ok (.aload_n 0, 1) := by decide +kernel
theorem d_ContentStoreModel_init_37 : decode prog_7_method_1_code 37 = .ok (.sipush 5760, 3) := by decide +kernel
theorem d_ContentStoreModel_init_40 : decode prog_7_method_1_code 40 = .ok (.newarray .int, 2) := by decide +kernel
theorem d_ContentStoreModel_init_42 : decode prog_7_method_1_code 42 = .ok (.putfield 24, 3) := by decide +kernel
theorem d_ContentStoreModel_init_45 : decode prog_7_method_1_code 45 = .ok (.aload_n 0, 1) := by decide +kernel
theorem d_ContentStoreModel_init_46 : decode prog_7_method_1_code 46 = .ok (.sipush 400, 3) := by decide +kernel
theorem d_ContentStoreModel_init_49 : decode prog_7_method_1_code 49 = .ok (.newarray .int, 2) := by decide +kernel
theorem d_ContentStoreModel_init_51 : decode prog_7_method_1_code 51 = .ok (.putfield 27, 3) := by decide +kernel
theorem d_ContentStoreModel_init_54 : decode prog_7_method_1_code 54 = .ok (.aload_n 0, 1) := by decide +kernel
theorem d_ContentStoreModel_init_55 : decode prog_7_method_1_code 55 = .ok (.sipush 400, 3) := by decide +kernel
theorem d_ContentStoreModel_init_58 : decode prog_7_method_1_code 58 = .ok (.newarray .int, 2) := by decide +kernel
theorem d_ContentStoreModel_init_60 : decode prog_7_method_1_code 60 = .ok (.putfield 30, 3) := by decide +kernel
theorem d_ContentStoreModel_init_63 : decode prog_7_method_1_code 63 = .ok (.aload_n 0, 1) := by decide +kernel
theorem d_ContentStoreModel_init_64 : decode prog_7_method_1_code 64 = .ok (.sipush 6400, 3) := by decide +kernel
theorem d_ContentStoreModel_init_67 : decode prog_7_method_1_code 67 = .ok (.newarray .int, 2) := by decide +kernel
theorem d_ContentStoreModel_init_69 : decode prog_7_method_1_code 69 = .ok (.putfield 33, 3) := by decide +kernel
theorem d_ContentStoreModel_init_72 : decode prog_7_method_1_code 72 = .ok (.aload_n 0, 1) := by decide +kernel
theorem d_ContentStoreModel_init_73 : decode prog_7_method_1_code 73 = .ok (.bipush 60, 2) := by decide +kernel
theorem d_ContentStoreModel_init_75 : decode prog_7_method_1_code 75 = .ok (.newarray .boolean, 2) := by decide +kernel
theorem d_ContentStoreModel_init_77 : decode prog_7_method_1_code 77 = .ok (.putfield 36, 3) := by decide +kernel
theorem d_ContentStoreModel_init_80 : decode prog_7_method_1_code 80 = .ok (.aload_n 0, 1) := by decide +kernel
theorem d_ContentStoreModel_init_81 : decode prog_7_method_1_code 81 = .ok (.bipush 60, 2) := by decide +kernel
theorem d_ContentStoreModel_init_83 : decode prog_7_method_1_code 83 = .ok (.newarray .int, 2) := by decide +kernel
theorem d_ContentStoreModel_init_85 : decode prog_7_method_1_code 85 = .ok (.putfield 39, 3) := by decide +kernel
theorem d_ContentStoreModel_init_88 : decode prog_7_method_1_code 88 = .ok (.aload_n 0, 1) := by decide +kernel
theorem d_ContentStoreModel_init_89 : decode prog_7_method_1_code 89 = .ok (.sipush 360, 3) := by decide +kernel
theorem d_ContentStoreModel_init_92 : decode prog_7_method_1_code 92 = .ok (.newarray .int, 2) := by decide +kernel
theorem d_ContentStoreModel_init_94 : decode prog_7_method_1_code 94 = .ok (.putfield 42, 3) := by decide +kernel
theorem d_ContentStoreModel_init_97 : decode prog_7_method_1_code 97 = .ok (.aload_n 0, 1) := by decide +kernel
theorem d_ContentStoreModel_init_98 : decode prog_7_method_1_code 98 = .ok (.bipush 60, 2) := by decide +kernel
theorem d_ContentStoreModel_init_100 : decode prog_7_method_1_code 100 = .ok (.newarray .int, 2) := by decide +kernel
theorem d_ContentStoreModel_init_102 : decode prog_7_method_1_code 102 = .ok (.putfield 45, 3) := by decide +kernel
theorem d_ContentStoreModel_init_105 : decode prog_7_method_1_code 105 = .ok (.aload_n 0, 1) := by decide +kernel
theorem d_ContentStoreModel_init_106 : decode prog_7_method_1_code 106 = .ok (.bipush 60, 2) := by decide +kernel
theorem d_ContentStoreModel_init_108 : decode prog_7_method_1_code 108 = .ok (.newarray .long, 2) := by decide +kernel
theorem d_ContentStoreModel_init_110 : decode prog_7_method_1_code 110 = .ok (.putfield 48, 3) := by decide +kernel
theorem d_ContentStoreModel_init_113 : decode prog_7_method_1_code 113 = .ok (.aload_n 0, 1) := by decide +kernel
theorem d_ContentStoreModel_init_114 : decode prog_7_method_1_code 114 = .ok (.bipush 60, 2) := by decide +kernel
theorem d_ContentStoreModel_init_116 : decode prog_7_method_1_code 116 = .ok (.newarray .int, 2) := by decide +kernel
theorem d_ContentStoreModel_init_118 : decode prog_7_method_1_code 118 = .ok (.putfield 51, 3) := by decide +kernel
theorem d_ContentStoreModel_init_121 : decode prog_7_method_1_code 121 = .ok (.aload_n 0, 1) := by decide +kernel
theorem d_ContentStoreModel_init_122 : decode prog_7_method_1_code 122 = .ok (.bipush 60, 2) := by decide +kernel
theorem d_ContentStoreModel_init_124 : decode prog_7_method_1_code 124 = .ok (.newarray .boolean, 2) := by decide +kernel
theorem d_ContentStoreModel_init_126 : decode prog_7_method_1_code 126 = .ok (.putfield 54, 3) := by decide +kernel
theorem d_ContentStoreModel_init_129 : decode prog_7_method_1_code 129 = .ok (.aload_n 0, 1) := by decide +kernel
theorem d_ContentStoreModel_init_130 : decode prog_7_method_1_code 130 = .ok (.sipush 5760, 3) := by decide +kernel
theorem d_ContentStoreModel_init_133 : decode prog_7_method_1_code 133 = .ok (.newarray .int, 2) := by decide +kernel
theorem d_ContentStoreModel_init_135 : decode prog_7_method_1_code 135 = .ok (.putfield 57, 3) := by decide +kernel
theorem d_ContentStoreModel_init_138 : decode prog_7_method_1_code 138 = .ok (.aload_n 0, 1) := by decide +kernel
theorem d_ContentStoreModel_init_139 : decode prog_7_method_1_code 139 = .ok (.bipush 20, 2) := by decide +kernel
theorem d_ContentStoreModel_init_141 : decode prog_7_method_1_code 141 = .ok (.newarray .int, 2) := by decide +kernel
theorem d_ContentStoreModel_init_143 : decode prog_7_method_1_code 143 = .ok (.putfield 60, 3) := by decide +kernel
theorem d_ContentStoreModel_init_146 : decode prog_7_method_1_code 146 = .ok (.aload_n 0, 1) := by decide +kernel
theorem d_ContentStoreModel_init_147 : decode prog_7_method_1_code 147 = .ok (.bipush 96, 2) := by decide +kernel
theorem d_ContentStoreModel_init_149 : decode prog_7_method_1_code 149 = .ok (.newarray .int, 2) := by decide +kernel
theorem d_ContentStoreModel_init_151 : decode prog_7_method_1_code 151 = .ok (.putfield 63, 3) := by decide +kernel
theorem d_ContentStoreModel_init_154 : decode prog_7_method_1_code 154 = .ok (.aload_n 0, 1) := by decide +kernel
theorem d_ContentStoreModel_init_155 : decode prog_7_method_1_code 155 = .ok (.iload_n 1, 1) := by decide +kernel
theorem d_ContentStoreModel_init_156 : decode prog_7_method_1_code 156 = .ok (.ifCond .ge 7, 3) := by decide +kernel
theorem d_ContentStoreModel_init_159 : decode prog_7_method_1_code 159 = .ok (.iconst 0, 1) := by decide +kernel
theorem d_ContentStoreModel_init_160 : decode prog_7_method_1_code 160 = .ok (.goto 17, 3) := by decide +kernel
theorem d_ContentStoreModel_init_163 : decode prog_7_method_1_code 163 = .ok (.iload_n 1, 1) := by decide +kernel
theorem d_ContentStoreModel_init_164 : decode prog_7_method_1_code 164 = .ok (.sipush 2000, 3) := by decide +kernel
theorem d_ContentStoreModel_init_167 : decode prog_7_method_1_code 167 = .ok (.if_icmp .le 9, 3) := by decide +kernel
theorem d_ContentStoreModel_init_170 : decode prog_7_method_1_code 170 = .ok (.sipush 2000, 3) := by decide +kernel
theorem d_ContentStoreModel_init_173 : decode prog_7_method_1_code 173 = .ok (.goto 4, 3) := by decide +kernel
theorem d_ContentStoreModel_init_176 : decode prog_7_method_1_code 176 = .ok (.iload_n 1, 1) := by decide +kernel
theorem d_ContentStoreModel_init_177 : decode prog_7_method_1_code 177 = .ok (.putfield 66, 3) := by decide +kernel
theorem d_ContentStoreModel_init_180 : decode prog_7_method_1_code 180 = .ok (.iconst 0, 1) := by decide +kernel
theorem d_ContentStoreModel_init_181 : decode prog_7_method_1_code 181 = .ok (.istore_n 2, 1) := by decide +kernel
theorem d_ContentStoreModel_init_182 : decode prog_7_method_1_code 182 = .ok (.iload_n 2, 1) := by decide +kernel
theorem d_ContentStoreModel_init_183 : decode prog_7_method_1_code 183 = .ok (.bipush 20, 2) := by decide +kernel
theorem d_ContentStoreModel_init_185 : decode prog_7_method_1_code 185 = .ok (.if_icmp .ge 16, 3) := by decide +kernel
theorem d_ContentStoreModel_init_188 : decode prog_7_method_1_code 188 = .ok (.aload_n 0, 1) := by decide +kernel
theorem d_ContentStoreModel_init_189 : decode prog_7_method_1_code 189 = .ok (.getfield 60, 3) := by decide +kernel
theorem d_ContentStoreModel_init_192 : decode prog_7_method_1_code 192 = .ok (.iload_n 2, 1) := by decide +kernel
theorem d_ContentStoreModel_init_193 : decode prog_7_method_1_code 193 = .ok (.iconst (-1), 1) := by decide +kernel
theorem d_ContentStoreModel_init_194 : decode prog_7_method_1_code 194 = .ok (.iastore, 1) := by decide +kernel
theorem d_ContentStoreModel_init_195 : decode prog_7_method_1_code 195 = .ok (.iinc 2 1, 3) := by decide +kernel
theorem d_ContentStoreModel_init_198 : decode prog_7_method_1_code 198 = .ok (.goto (-16), 3) := by decide +kernel
theorem d_ContentStoreModel_init_201 : decode prog_7_method_1_code 201 = .ok (.iconst 0, 1) := by decide +kernel
theorem d_ContentStoreModel_init_202 : decode prog_7_method_1_code 202 = .ok (.istore_n 2, 1) := by decide +kernel
theorem d_ContentStoreModel_init_203 : decode prog_7_method_1_code 203 = .ok (.iload_n 2, 1) := by decide +kernel
theorem d_ContentStoreModel_init_204 : decode prog_7_method_1_code 204 = .ok (.bipush 60, 2) := by decide +kernel
theorem d_ContentStoreModel_init_206 : decode prog_7_method_1_code 206 = .ok (.if_icmp .ge 16, 3) := by decide +kernel
theorem d_ContentStoreModel_init_209 : decode prog_7_method_1_code 209 = .ok (.aload_n 0, 1) := by decide +kernel
theorem d_ContentStoreModel_init_210 : decode prog_7_method_1_code 210 = .ok (.getfield 51, 3) := by decide +kernel
theorem d_ContentStoreModel_init_213 : decode prog_7_method_1_code 213 = .ok (.iload_n 2, 1) := by decide +kernel
theorem d_ContentStoreModel_init_214 : decode prog_7_method_1_code 214 = .ok (.iconst (-1), 1) := by decide +kernel
theorem d_ContentStoreModel_init_215 : decode prog_7_method_1_code 215 = .ok (.iastore, 1) := by decide +kernel
theorem d_ContentStoreModel_init_216 : decode prog_7_method_1_code 216 = .ok (.iinc 2 1, 3) := by decide +kernel
theorem d_ContentStoreModel_init_219 : decode prog_7_method_1_code 219 = .ok (.goto (-16), 3) := by decide +kernel
theorem d_ContentStoreModel_init_222 : decode prog_7_method_1_code 222 = .ok (.return_, 1) := by decide +kernel
theorem d_ContentStoreModel_begin_0 : decode prog_7_method_7_code 0 = .ok (.aload_n 0, 1) := by decide +kernel
theorem d_ContentStoreModel_begin_1 : decode prog_7_method_7_code 1 = .ok (.iconst 0, 1) := by decide +kernel
theorem d_ContentStoreModel_begin_2 : decode prog_7_method_7_code 2 = .ok (.putfield 70, 3) := by decide +kernel
theorem d_ContentStoreModel_begin_5 : decode prog_7_method_7_code 5 = .ok (.iconst 0, 1) := by decide +kernel
theorem d_ContentStoreModel_begin_6 : decode prog_7_method_7_code 6 = .ok (.istore 4, 2) := by decide +kernel
theorem d_ContentStoreModel_begin_8 : decode prog_7_method_7_code 8 = .ok (.iconst 0, 1) := by decide +kernel
theorem d_ContentStoreModel_begin_9 : decode prog_7_method_7_code 9 = .ok (.istore 5, 2) := by decide +kernel
theorem d_ContentStoreModel_begin_11 : decode prog_7_method_7_code 11 = .ok (.iload 5, 2) := by decide +kernel
theorem d_ContentStoreModel_begin_13 : decode prog_7_method_7_code 13 = .ok (.aload_n 0, 1) := by decide +kernel
theorem d_ContentStoreModel_begin_14 : decode prog_7_method_7_code 14 = .ok (.getfield 80, 3) := by decide +kernel
theorem d_ContentStoreModel_begin_17 : decode prog_7_method_7_code 17 = .ok (.if_icmp .ge 29, 3) := by decide +kernel
theorem d_ContentStoreModel_begin_20 : decode prog_7_method_7_code 20 = .ok (.iload 4, 2) := by decide +kernel
theorem d_ContentStoreModel_begin_22 : decode prog_7_method_7_code 22 = .ok (.aload_n 0, 1) := by decide +kernel
theorem d_ContentStoreModel_begin_23 : decode prog_7_method_7_code 23 = .ok (.getfield 17, 3) := by decide +kernel
theorem d_ContentStoreModel_begin_26 : decode prog_7_method_7_code 26 = .ok (.iload 5, 2) := by decide +kernel
theorem d_ContentStoreModel_begin_28 : decode prog_7_method_7_code 28 = .ok (.baload, 1) := by decide +kernel
theorem d_ContentStoreModel_begin_29 : decode prog_7_method_7_code 29 = .ok (.ifCond .eq 7, 3) := by decide +kernel
theorem d_ContentStoreModel_begin_32 : decode prog_7_method_7_code 32 = .ok (.iconst 1, 1) := by decide +kernel
theorem d_ContentStoreModel_begin_33 : decode prog_7_method_7_code 33 = .ok (.goto 4, 3) := by decide +kernel
theorem d_ContentStoreModel_begin_36 : decode prog_7_method_7_code 36 = .ok (.iconst 0, 1) := by decide +kernel
theorem d_ContentStoreModel_begin_37 : decode prog_7_method_7_code 37 = .ok (.iadd, 1) := by decide +kernel
theorem d_ContentStoreModel_begin_38 : decode prog_7_method_7_code 38 = .ok (.istore 4, 2) := by decide +kernel
theorem d_ContentStoreModel_begin_40 : decode prog_7_method_7_code 40 = .ok (.iinc 5 1, 3) := by decide +kernel
theorem d_ContentStoreModel_begin_43 : decode prog_7_method_7_code 43 = .ok (.goto (-32), 3) := by decide +kernel
theorem d_ContentStoreModel_begin_46 : decode prog_7_method_7_code 46 = .ok (.aload_n 0, 1) := by decide +kernel
theorem d_ContentStoreModel_begin_47 : decode prog_7_method_7_code 47 = .ok (.getfield 80, 3) := by decide +kernel
theorem d_ContentStoreModel_begin_50 : decode prog_7_method_7_code 50 = .ok (.bipush 60, 2) := by decide +kernel
theorem d_ContentStoreModel_begin_52 : decode prog_7_method_7_code 52 = .ok (.if_icmp .eq 19, 3) := by decide +kernel
theorem d_ContentStoreModel_begin_55 : decode prog_7_method_7_code 55 = .ok (.iload 4, 2) := by decide +kernel
theorem d_ContentStoreModel_begin_57 : decode prog_7_method_7_code 57 = .ok (.iconst 4, 1) := by decide +kernel
theorem d_ContentStoreModel_begin_58 : decode prog_7_method_7_code 58 = .ok (.if_icmp .eq 13, 3) := by decide +kernel
theorem d_ContentStoreModel_begin_61 : decode prog_7_method_7_code 61 = .ok (.iload_n 1, 1) := by decide +kernel
theorem d_ContentStoreModel_begin_62 : decode prog_7_method_7_code 62 = .ok (.iconst 0, 1) := by decide +kernel
theorem d_ContentStoreModel_begin_63 : decode prog_7_method_7_code 63 = .ok (.bipush 96, 2) := by decide +kernel
theorem d_ContentStoreModel_begin_65 : decode prog_7_method_7_code 65 = .ok (.invokestatic 76, 3) := by decide +kernel
theorem d_ContentStoreModel_begin_68 : decode prog_7_method_7_code 68 = .ok (.ifCond .ne 5, 3) := by decide +kernel
theorem d_ContentStoreModel_begin_71 : decode prog_7_method_7_code 71 = .ok (.iconst (-1), 1) := by decide +kernel
theorem d_ContentStoreModel_begin_72 : decode prog_7_method_7_code 72 = .ok (.ireturn, 1) := by decide +kernel
theorem d_ContentStoreModel_begin_73 : decode prog_7_method_7_code 73 = .ok (.aload_n 0, 1) := by decide +kernel
theorem d_ContentStoreModel_begin_74 : decode prog_7_method_7_code 74 = .ok (.getfield 7, 3) := by decide +kernel
theorem d_ContentStoreModel_begin_77 : decode prog_7_method_7_code 77 = .ok (.aload_n 0, 1) := by decide +kernel
theorem d_ContentStoreModel_begin_78 : decode prog_7_method_7_code 78 = .ok (.getfield 80, 3) := by decide +kernel
theorem d_ContentStoreModel_begin_81 : decode prog_7_method_7_code 81 = .ok (.iload_n 1, 1) := by decide +kernel
theorem d_ContentStoreModel_begin_82 : decode prog_7_method_7_code 82 = .ok (.iastore, 1) := by decide +kernel
theorem d_ContentStoreModel_begin_83 : decode prog_7_method_7_code 83 = .ok (.aload_n 0, 1) := by decide +kernel
theorem d_ContentStoreModel_begin_84 : decode prog_7_method_7_code 84 = .ok (.getfield 13, 3) := by decide +kernel
theorem d_ContentStoreModel_begin_87 : decode prog_7_method_7_code 87 = .ok (.aload_n 0, 1) := by decide +kernel
theorem d_ContentStoreModel_begin_88 : decode prog_7_method_7_code 88 = .ok (.getfield 80, 3) := by decide +kernel
theorem d_ContentStoreModel_begin_91 : decode prog_7_method_7_code 91 = .ok (.lload_n 2, 1) := by decide +kernel
theorem d_ContentStoreModel_begin_92 : decode prog_7_method_7_code 92 = .ok (.lastore, 1) := by decide +kernel
theorem d_ContentStoreModel_begin_93 : decode prog_7_method_7_code 93 = .ok (.aload_n 0, 1) := by decide +kernel
theorem d_ContentStoreModel_begin_94 : decode prog_7_method_7_code 94 = .ok (.getfield 17, 3) := by decide +kernel
theorem d_ContentStoreModel_begin_97 : decode prog_7_method_7_code 97 = .ok (.aload_n 0, 1) := by decide +kernel
theorem d_ContentStoreModel_begin_98 : decode prog_7_method_7_code 98 = .ok (.getfield 80, 3) := by decide +kernel
theorem d_ContentStoreModel_begin_101 : decode prog_7_method_7_code 101 = .ok (.iconst 1, 1) := by decide +kernel
theorem d_ContentStoreModel_begin_102 : decode prog_7_method_7_code 102 = .ok (.bastore, 1) := by decide +kernel
theorem d_ContentStoreModel_begin_103 : decode prog_7_method_7_code 103 = .ok (.aload_n 0, 1) := by decide +kernel
theorem d_ContentStoreModel_begin_104 : decode prog_7_method_7_code 104 = .ok (.dup, 1) := by decide +kernel
theorem d_ContentStoreModel_begin_105 : decode prog_7_method_7_code 105 = .ok (.getfield 80, 3) := by decide +kernel
theorem d_ContentStoreModel_begin_108 : decode prog_7_method_7_code 108 = .ok (.iconst 1, 1) := by decide +kernel
theorem d_ContentStoreModel_begin_109 : decode prog_7_method_7_code 109 = .ok (.iadd, 1) := by decide +kernel
theorem d_ContentStoreModel_begin_110 : decode prog_7_method_7_code 110 = .ok (.putfield 80, 3) := by decide +kernel
theorem d_ContentStoreModel_begin_113 : decode prog_7_method_7_code 113 = .ok (.aload_n 0, 1) := by decide +kernel
theorem d_ContentStoreModel_begin_114 : decode prog_7_method_7_code 114 = .ok (.getfield 80, 3) := by decide +kernel
theorem d_ContentStoreModel_begin_117 : decode prog_7_method_7_code 117 = .ok (.iconst 1, 1) := by decide +kernel
theorem d_ContentStoreModel_begin_118 : decode prog_7_method_7_code 118 = .ok (.isub, 1) := by decide +kernel
theorem d_ContentStoreModel_begin_119 : decode prog_7_method_7_code 119 = .ok (.ireturn, 1) := by decide +kernel
theorem d_ContentStoreModel_in_0 : decode prog_7_method_3_code 0 = .ok (.iload_n 0, 1) := by decide +kernel
theorem d_ContentStoreModel_in_1 : decode prog_7_method_3_code 1 = .ok (.iload_n 1, 1) := by decide +kernel
theorem d_ContentStoreModel_in_2 : decode prog_7_method_3_code 2 = .ok (.if_icmp .lt 12, 3) := by decide +kernel
theorem d_ContentStoreModel_in_5 : decode prog_7_method_3_code 5 = .ok (.iload_n 0, 1) := by decide +kernel
theorem d_ContentStoreModel_in_6 : decode prog_7_method_3_code 6 = .ok (.iload_n 2, 1) := by decide +kernel
theorem d_ContentStoreModel_in_7 : decode prog_7_method_3_code 7 = .ok (.if_icmp .gt 7, 3) := by decide +kernel
theorem d_ContentStoreModel_in_10 : decode prog_7_method_3_code 10 = .ok (.iconst 1, 1) := by decide +kernel
theorem d_ContentStoreModel_in_11 : decode prog_7_method_3_code 11 = .ok (.goto 4, 3) := by decide +kernel
theorem d_ContentStoreModel_in_14 : decode prog_7_method_3_code 14 = .ok (.iconst 0, 1) := by decide +kernel
theorem d_ContentStoreModel_in_15 : decode prog_7_method_3_code 15 = .ok (.ireturn, 1) := by decide +kernel
theorem d_ContentStoreModel_add_0 : decode prog_7_method_8_code 0 = .ok (.aload_n 0, 1) := by decide +kernel
theorem d_ContentStoreModel_add_1 : decode prog_7_method_8_code 1 = .ok (.iconst 0, 1) := by decide +kernel
theorem d_ContentStoreModel_add_2 : decode prog_7_method_8_code 2 = .ok (.putfield 70, 3) := by decide +kernel
theorem d_ContentStoreModel_add_5 : decode prog_7_method_8_code 5 = .ok (.aload_n 0, 1) := by decide +kernel
theorem d_ContentStoreModel_add_6 : decode prog_7_method_8_code 6 = .ok (.iload_n 1, 1) := by decide +kernel
theorem d_ContentStoreModel_add_7 : decode prog_7_method_8_code 7 = .ok (.invokevirtual 84, 3) := by decide +kernel
theorem d_ContentStoreModel_add_10 : decode prog_7_method_8_code 10 = .ok (.ifCond .eq 32, 3) := by decide +kernel
theorem d_ContentStoreModel_add_13 : decode prog_7_method_8_code 13 = .ok (.iload 4, 2) := by decide +kernel
theorem d_ContentStoreModel_add_15 : decode prog_7_method_8_code 15 = .ok (.iconst 1, 1) := by decide +kernel
theorem d_ContentStoreModel_add_16 : decode prog_7_method_8_code 16 = .ok (.bipush 8, 2) := by decide +kernel
theorem d_ContentStoreModel_add_18 : decode prog_7_method_8_code 18 = .ok (.invokestatic 76, 3) := by decide +kernel
theorem d_ContentStoreModel_add_21 : decode prog_7_method_8_code 21 = .ok (.ifCond .eq 21, 3) := by decide +kernel
theorem d_ContentStoreModel_add_24 : decode prog_7_method_8_code 24 = .ok (.aload_n 0, 1) := by decide +kernel
theorem d_ContentStoreModel_add_25 : decode prog_7_method_8_code 25 = .ok (.getfield 21, 3) := by decide +kernel
theorem d_ContentStoreModel_add_28 : decode prog_7_method_8_code 28 = .ok (.iload_n 1, 1) := by decide +kernel
theorem d_ContentStoreModel_add_29 : decode prog_7_method_8_code 29 = .ok (.iaload, 1) := by decide +kernel
theorem d_ContentStoreModel_add_30 : decode prog_7_method_8_code 30 = .ok (.iload 4, 2) := by decide +kernel
theorem d_ContentStoreModel_add_32 : decode prog_7_method_8_code 32 = .ok (.iadd, 1) := by decide +kernel
theorem d_ContentStoreModel_add_33 : decode prog_7_method_8_code 33 = .ok (.aload_n 0, 1) := by decide +kernel
theorem d_ContentStoreModel_add_34 : decode prog_7_method_8_code 34 = .ok (.getfield 7, 3) := by decide +kernel
theorem d_ContentStoreModel_add_37 : decode prog_7_method_8_code 37 = .ok (.iload_n 1, 1) := by decide +kernel
theorem d_ContentStoreModel_add_38 : decode prog_7_method_8_code 38 = .ok (.iaload, 1) := by decide +kernel
theorem d_ContentStoreModel_add_39 : decode prog_7_method_8_code 39 = .ok (.if_icmp .le 5, 3) := by decide +kernel
theorem d_ContentStoreModel_add_42 : decode prog_7_method_8_code 42 = .ok (.iconst (-1), 1) := by decide +kernel
theorem d_ContentStoreModel_add_43 : decode prog_7_method_8_code 43 = .ok (.ireturn, 1) := by decide +kernel
theorem d_ContentStoreModel_add_44 : decode prog_7_method_8_code 44 = .ok (.iload 4, 2) := by decide +kernel
theorem d_ContentStoreModel_add_46 : decode prog_7_method_8_code 46 = .ok (.iconst 1, 1) := by decide +kernel
theorem d_ContentStoreModel_add_47 : decode prog_7_method_8_code 47 = .ok (.isub, 1) := by decide +kernel
theorem d_ContentStoreModel_add_48 : decode prog_7_method_8_code 48 = .ok (.istore 5, 2) := by decide +kernel
theorem d_ContentStoreModel_add_50 : decode prog_7_method_8_code 50 = .ok (.iload 5, 2) := by decide +kernel
theorem d_ContentStoreModel_add_52 : decode prog_7_method_8_code 52 = .ok (.ifCond .lt 47, 3) := by decide +kernel
theorem d_ContentStoreModel_add_55 : decode prog_7_method_8_code 55 = .ok (.aload_n 0, 1) := by decide +kernel
theorem d_ContentStoreModel_add_56 : decode prog_7_method_8_code 56 = .ok (.getfield 24, 3) := by decide +kernel
theorem d_ContentStoreModel_add_59 : decode prog_7_method_8_code 59 = .ok (.bipush 96, 2) := by decide +kernel
theorem d_ContentStoreModel_add_61 : decode prog_7_method_8_code 61 = .ok (.iload_n 1, 1) := by decide +kernel
theorem d_ContentStoreModel_add_62 : decode prog_7_method_8_code 62 = .ok (.imul, 1) := by decide +kernel
theorem d_ContentStoreModel_add_63 : decode prog_7_method_8_code 63 = .ok (.aload_n 0, 1) := by decide +kernel
theorem d_ContentStoreModel_add_64 : decode prog_7_method_8_code 64 = .ok (.getfield 21, 3) := by decide +kernel
theorem d_ContentStoreModel_add_67 : decode prog_7_method_8_code 67 = .ok (.iload_n 1, 1) := by decide +kernel
theorem d_ContentStoreModel_add_68 : decode prog_7_method_8_code 68 = .ok (.iaload, 1) := by decide +kernel
theorem d_ContentStoreModel_add_69 : decode prog_7_method_8_code 69 = .ok (.iadd, 1) := by decide +kernel
theorem d_ContentStoreModel_add_70 : decode prog_7_method_8_code 70 = .ok (.lload_n 2, 1) := by decide +kernel
theorem d_ContentStoreModel_add_71 : decode prog_7_method_8_code 71 = .ok (.bipush 8, 2) := by decide +kernel
theorem d_ContentStoreModel_add_73 : decode prog_7_method_8_code 73 = .ok (.iload 5, 2) := by decide +kernel
theorem d_ContentStoreModel_add_75 : decode prog_7_method_8_code 75 = .ok (.imul, 1) := by decide +kernel
theorem d_ContentStoreModel_add_76 : decode prog_7_method_8_code 76 = .ok (.lushr, 1) := by decide +kernel
theorem d_ContentStoreModel_add_77 : decode prog_7_method_8_code 77 = .ok (.l2i, 1) := by decide +kernel
theorem d_ContentStoreModel_add_78 : decode prog_7_method_8_code 78 = .ok (.sipush 255, 3) := by decide +kernel
theorem d_ContentStoreModel_add_81 : decode prog_7_method_8_code 81 = .ok (.iand, 1) := by decide +kernel
theorem d_ContentStoreModel_add_82 : decode prog_7_method_8_code 82 = .ok (.iastore, 1) := by decide +kernel
theorem d_ContentStoreModel_add_83 : decode prog_7_method_8_code 83 = .ok (.aload_n 0, 1) := by decide +kernel
theorem d_ContentStoreModel_add_84 : decode prog_7_method_8_code 84 = .ok (.getfield 21, 3) := by decide +kernel
theorem d_ContentStoreModel_add_87 : decode prog_7_method_8_code 87 = .ok (.iload_n 1, 1) := by decide +kernel
theorem d_ContentStoreModel_add_88 : decode prog_7_method_8_code 88 = .ok (.dup2, 1) := by decide +kernel
theorem d_ContentStoreModel_add_89 : decode prog_7_method_8_code 89 = .ok (.iaload, 1) := by decide +kernel
theorem d_ContentStoreModel_add_90 : decode prog_7_method_8_code 90 = .ok (.iconst 1, 1) := by decide +kernel
theorem d_ContentStoreModel_add_91 : decode prog_7_method_8_code 91 = .ok (.iadd, 1) := by decide +kernel
theorem d_ContentStoreModel_add_92 : decode prog_7_method_8_code 92 = .ok (.iastore, 1) := by decide +kernel
theorem d_ContentStoreModel_add_93 : decode prog_7_method_8_code 93 = .ok (.iinc 5 (-1), 3) := by decide +kernel
theorem d_ContentStoreModel_add_96 : decode prog_7_method_8_code 96 = .ok (.goto (-46), 3) := by decide +kernel
theorem d_ContentStoreModel_add_99 : decode prog_7_method_8_code 99 = .ok (.aload_n 0, 1) := by decide +kernel
theorem d_ContentStoreModel_add_100 : decode prog_7_method_8_code 100 = .ok (.getfield 21, 3) := by decide +kernel
theorem d_ContentStoreModel_add_103 : decode prog_7_method_8_code 103 = .ok (.iload_n 1, 1) := by decide +kernel
theorem d_ContentStoreModel_add_104 : decode prog_7_method_8_code 104 = .ok (.iaload, 1) := by decide +kernel
theorem d_ContentStoreModel_add_105 : decode prog_7_method_8_code 105 = .ok (.ireturn, 1) := by decide +kernel
theorem d_ContentStoreModel_isOpen_0 : decode prog_7_method_5_code 0 = .ok (.iload_n 1, 1) := by decide +kernel
theorem d_ContentStoreModel_isOpen_1 : decode prog_7_method_5_code 1 = .ok (.iconst 0, 1) := by decide +kernel
theorem d_ContentStoreModel_isOpen_2 : decode prog_7_method_5_code 2 = .ok (.aload_n 0, 1) := by decide +kernel
theorem d_ContentStoreModel_isOpen_3 : decode prog_7_method_5_code 3 = .ok (.getfield 80, 3) := by decide +kernel
theorem d_ContentStoreModel_isOpen_6 : decode prog_7_method_5_code 6 = .ok (.iconst 1, 1) := by decide +kernel
theorem d_ContentStoreModel_isOpen_7 : decode prog_7_method_5_code 7 = .ok (.isub, 1) := by decide +kernel
theorem d_ContentStoreModel_isOpen_8 : decode prog_7_method_5_code 8 = .ok (.invokestatic 76, 3) := by decide +kernel
theorem d_ContentStoreModel_isOpen_11 : decode prog_7_method_5_code 11 = .ok (.ifCond .eq 16, 3) := by decide +kernel
theorem d_ContentStoreModel_isOpen_14 : decode prog_7_method_5_code 14 = .ok (.aload_n 0, 1) := by decide +kernel
theorem d_ContentStoreModel_isOpen_15 : decode prog_7_method_5_code 15 = .ok (.getfield 17, 3) := by decide +kernel
theorem d_ContentStoreModel_isOpen_18 : decode prog_7_method_5_code 18 = .ok (.iload_n 1, 1) := by decide +kernel
theorem d_ContentStoreModel_isOpen_19 : decode prog_7_method_5_code 19 = .ok (.baload, 1) := by decide +kernel
theorem d_ContentStoreModel_isOpen_20 : decode prog_7_method_5_code 20 = .ok (.ifCond .eq 7, 3) := by decide +kernel
theorem d_ContentStoreModel_isOpen_23 : decode prog_7_method_5_code 23 = .ok (.iconst 1, 1) := by decide +kernel
theorem d_ContentStoreModel_isOpen_24 : decode prog_7_method_5_code 24 = .ok (.goto 4, 3) := by decide +kernel
theorem d_ContentStoreModel_isOpen_27 : decode prog_7_method_5_code 27 = .ok (.iconst 0, 1) := by decide +kernel
theorem d_ContentStoreModel_isOpen_28 : decode prog_7_method_5_code 28 = .ok (.ireturn, 1) := by decide +kernel
theorem d_ContentStoreModel_end_0 : decode prog_7_method_9_code 0 = .ok (.aload_n 0, 1) := by decide +kernel
theorem d_ContentStoreModel_end_1 : decode prog_7_method_9_code 1 = .ok (.iconst 0, 1) := by decide +kernel
theorem d_ContentStoreModel_end_2 : decode prog_7_method_9_code 2 = .ok (.putfield 70, 3) := by decide +kernel
theorem d_ContentStoreModel_end_5 : decode prog_7_method_9_code 5 = .ok (.aload_n 0, 1) := by decide +kernel
theorem d_ContentStoreModel_end_6 : decode prog_7_method_9_code 6 = .ok (.iload_n 1, 1) := by decide +kernel
theorem d_ContentStoreModel_end_7 : decode prog_7_method_9_code 7 = .ok (.invokevirtual 84, 3) := by decide +kernel
theorem d_ContentStoreModel_end_10 : decode prog_7_method_9_code 10 = .ok (.ifCond .ne 5, 3) := by decide +kernel
theorem d_ContentStoreModel_end_13 : decode prog_7_method_9_code 13 = .ok (.iconst (-1), 1) := by decide +kernel
theorem d_ContentStoreModel_end_14 : decode prog_7_method_9_code 14 = .ok (.ireturn, 1) := by decide +kernel
theorem d_ContentStoreModel_end_15 : decode prog_7_method_9_code 15 = .ok (.aload_n 0, 1) := by decide +kernel
theorem d_ContentStoreModel_end_16 : decode prog_7_method_9_code 16 = .ok (.getfield 17, 3) := by decide +kernel
theorem d_ContentStoreModel_end_19 : decode prog_7_method_9_code 19 = .ok (.iload_n 1, 1) := by decide +kernel
theorem d_ContentStoreModel_end_20 : decode prog_7_method_9_code 20 = .ok (.iconst 0, 1) := by decide +kernel
theorem d_ContentStoreModel_end_21 : decode prog_7_method_9_code 21 = .ok (.bastore, 1) := by decide +kernel
theorem d_ContentStoreModel_end_22 : decode prog_7_method_9_code 22 = .ok (.aload_n 0, 1) := by decide +kernel
theorem d_ContentStoreModel_end_23 : decode prog_7_method_9_code 23 = .ok (.getfield 21, 3) := by decide +kernel
theorem d_ContentStoreModel_end_26 : decode prog_7_method_9_code 26 = .ok (.iload_n 1, 1) := by decide +kernel
theorem d_ContentStoreModel_end_27 : decode prog_7_method_9_code 27 = .ok (.iaload, 1) := by decide +kernel
theorem d_ContentStoreModel_end_28 : decode prog_7_method_9_code 28 = .ok (.aload_n 0, 1) := by decide +kernel
theorem d_ContentStoreModel_end_29 : decode prog_7_method_9_code 29 = .ok (.getfield 7, 3) := by decide +kernel
theorem d_ContentStoreModel_end_32 : decode prog_7_method_9_code 32 = .ok (.iload_n 1, 1) := by decide +kernel
theorem d_ContentStoreModel_end_33 : decode prog_7_method_9_code 33 = .ok (.iaload, 1) := by decide +kernel
theorem d_ContentStoreModel_end_34 : decode prog_7_method_9_code 34 = .ok (.if_icmp .ne 14, 3) := by decide +kernel
theorem d_ContentStoreModel_end_37 : decode prog_7_method_9_code 37 = .ok (.aload_n 0, 1) := by decide +kernel
theorem d_ContentStoreModel_end_38 : decode prog_7_method_9_code 38 = .ok (.getfield 13, 3) := by decide +kernel
theorem d_ContentStoreModel_end_41 : decode prog_7_method_9_code 41 = .ok (.iload_n 1, 1) := by decide +kernel
theorem d_ContentStoreModel_end_42 : decode prog_7_method_9_code 42 = .ok (.laload, 1) := by decide +kernel
theorem d_ContentStoreModel_end_43 : decode prog_7_method_9_code 43 = .ok (.lconst 0, 1) := by decide +kernel
theorem d_ContentStoreModel_end_44 : decode prog_7_method_9_code 44 = .ok (.lcmp, 1) := by decide +kernel
theorem d_ContentStoreModel_end_45 : decode prog_7_method_9_code 45 = .ok (.ifCond .eq 6, 3) := by decide +kernel
theorem d_ContentStoreModel_end_48 : decode prog_7_method_9_code 48 = .ok (.bipush (-2), 2) := by decide +kernel
theorem d_ContentStoreModel_end_50 : decode prog_7_method_9_code 50 = .ok (.ireturn, 1) := by decide +kernel
theorem d_ContentStoreModel_end_51 : decode prog_7_method_9_code 51 = .ok (.aload_n 0, 1) := by decide +kernel
theorem d_ContentStoreModel_end_52 : decode prog_7_method_9_code 52 = .ok (.getfield 21, 3) := by decide +kernel
theorem d_ContentStoreModel_end_55 : decode prog_7_method_9_code 55 = .ok (.iload_n 1, 1) := by decide +kernel
theorem d_ContentStoreModel_end_56 : decode prog_7_method_9_code 56 = .ok (.iaload, 1) := by decide +kernel
theorem d_ContentStoreModel_end_57 : decode prog_7_method_9_code 57 = .ok (.istore_n 2, 1) := by decide +kernel
theorem d_ContentStoreModel_end_58 : decode prog_7_method_9_code 58 = .ok (.iconst 0, 1) := by decide +kernel
theorem d_ContentStoreModel_end_59 : decode prog_7_method_9_code 59 = .ok (.istore_n 3, 1) := by decide +kernel
theorem d_ContentStoreModel_end_60 : decode prog_7_method_9_code 60 = .ok (.iload_n 3, 1) := by decide +kernel
theorem d_ContentStoreModel_end_61 : decode prog_7_method_9_code 61 = .ok (.iload_n 2, 1) := by decide +kernel
theorem d_ContentStoreModel_end_62 : decode prog_7_method_9_code 62 = .ok (.if_icmp .ge 26, 3) := by decide +kernel
theorem d_ContentStoreModel_end_65 : decode prog_7_method_9_code 65 = .ok (.aload_n 0, 1) := by decide +kernel
theorem d_ContentStoreModel_end_66 : decode prog_7_method_9_code 66 = .ok (.getfield 63, 3) := by decide +kernel
theorem d_ContentStoreModel_end_69 : decode prog_7_method_9_code 69 = .ok (.iload_n 3, 1) := by decide +kernel
theorem d_ContentStoreModel_end_70 : decode prog_7_method_9_code 70 = .ok (.aload_n 0, 1) := by decide +kernel
theorem d_ContentStoreModel_end_71 : decode prog_7_method_9_code 71 = .ok (.getfield 24, 3) := by decide +kernel
theorem d_ContentStoreModel_end_74 : decode prog_7_method_9_code 74 = .ok (.bipush 96, 2) := by decide +kernel
theorem d_ContentStoreModel_end_76 : decode prog_7_method_9_code 76 = .ok (.iload_n 1, 1) := by decide +kernel
theorem d_ContentStoreModel_end_77 : decode prog_7_method_9_code 77 = .ok (.imul, 1) := by decide +kernel
theorem d_ContentStoreModel_end_78 : decode prog_7_method_9_code 78 = .ok (.iload_n 3, 1) := by decide +kernel
theorem d_ContentStoreModel_end_79 : decode prog_7_method_9_code 79 = .ok (.iadd, 1) := by decide +kernel
theorem d_ContentStoreModel_end_80 : decode prog_7_method_9_code 80 = .ok (.iaload, 1) := by decide +kernel
theorem d_ContentStoreModel_end_81 : decode prog_7_method_9_code 81 = .ok (.iastore, 1) := by decide +kernel
theorem d_ContentStoreModel_end_82 : decode prog_7_method_9_code 82 = .ok (.iinc 3 1, 3) := by decide +kernel
theorem d_ContentStoreModel_end_85 : decode prog_7_method_9_code 85 = .ok (.goto (-25), 3) := by decide +kernel
theorem d_ContentStoreModel_end_88 : decode prog_7_method_9_code 88 = .ok (.iconst 0, 1) := by decide +kernel
theorem d_ContentStoreModel_end_89 : decode prog_7_method_9_code 89 = .ok (.istore_n 3, 1) := by decide +kernel
theorem d_ContentStoreModel_end_90 : decode prog_7_method_9_code 90 = .ok (.iload_n 3, 1) := by decide +kernel
theorem d_ContentStoreModel_end_91 : decode prog_7_method_9_code 91 = .ok (.aload_n 0, 1) := by decide +kernel
theorem d_ContentStoreModel_end_92 : decode prog_7_method_9_code 92 = .ok (.getfield 73, 3) := by decide +kernel
theorem d_ContentStoreModel_end_95 : decode prog_7_method_9_code 95 = .ok (.if_icmp .ge 46, 3) := by decide +kernel
theorem d_ContentStoreModel_end_98 : decode prog_7_method_9_code 98 = .ok (.aload_n 0, 1) := by decide +kernel
theorem d_ContentStoreModel_end_99 : decode prog_7_method_9_code 99 = .ok (.getfield 36, 3) := by decide +kernel
theorem d_ContentStoreModel_end_102 : decode prog_7_method_9_code 102 = .ok (.iload_n 3, 1) := by decide +kernel
theorem d_ContentStoreModel_end_103 : decode prog_7_method_9_code 103 = .ok (.baload, 1) := by decide +kernel
theorem d_ContentStoreModel_end_104 : decode prog_7_method_9_code 104 = .ok (.ifCond .eq 31, 3) := by decide +kernel
theorem d_ContentStoreModel_end_107 : decode prog_7_method_9_code 107 = .ok (.aload_n 0, 1) := by decide +kernel
theorem d_ContentStoreModel_end_108 : decode prog_7_method_9_code 108 = .ok (.getfield 39, 3) := by decide +kernel
theorem d_ContentStoreModel_end_111 : decode prog_7_method_9_code 111 = .ok (.iload_n 3, 1) := by decide +kernel
theorem d_ContentStoreModel_end_112 : decode prog_7_method_9_code 112 = .ok (.iaload, 1) := by decide +kernel
theorem d_ContentStoreModel_end_113 : decode prog_7_method_9_code 113 = .ok (.iload_n 2, 1) := by decide +kernel
theorem d_ContentStoreModel_end_114 : decode prog_7_method_9_code 114 = .ok (.if_icmp .ne 21, 3) := by decide +kernel
theorem d_ContentStoreModel_end_117 : decode prog_7_method_9_code 117 = .ok (.aload_n 0, 1) := by decide +kernel
theorem d_ContentStoreModel_end_118 : decode prog_7_method_9_code 118 = .ok (.iload_n 3, 1) := by decide +kernel
theorem d_ContentStoreModel_end_119 : decode prog_7_method_9_code 119 = .ok (.invokevirtual 88, 3) := by decide +kernel
theorem d_ContentStoreModel_end_122 : decode prog_7_method_9_code 122 = .ok (.ifCond .eq 13, 3) := by decide +kernel
theorem d_ContentStoreModel_end_125 : decode prog_7_method_9_code 125 = .ok (.aload_n 0, 1) := by decide +kernel
theorem d_ContentStoreModel_end_126 : decode prog_7_method_9_code 126 = .ok (.iload_n 3, 1) := by decide +kernel
theorem d_ContentStoreModel_end_127 : decode prog_7_method_9_code 127 = .ok (.invokevirtual 91, 3) := by decide +kernel
theorem d_ContentStoreModel_end_130 : decode prog_7_method_9_code 130 = .ok (.ifCond .eq 5, 3) := by decide +kernel
theorem d_ContentStoreModel_end_133 : decode prog_7_method_9_code 133 = .ok (.iload_n 3, 1) := by decide +kernel
theorem d_ContentStoreModel_end_134 : decode prog_7_method_9_code 134 = .ok (.ireturn, 1) := by decide +kernel
theorem d_ContentStoreModel_end_135 : decode prog_7_method_9_code 135 = .ok (.iinc 3 1, 3) := by decide +kernel
theorem d_ContentStoreModel_end_138 : decode prog_7_method_9_code 138 = .ok (.goto (-48), 3) := by decide +kernel
theorem d_ContentStoreModel_end_141 : decode prog_7_method_9_code 141 = .ok (.aload_n 0, 1) := by decide +kernel
theorem d_ContentStoreModel_end_142 : decode prog_7_method_9_code 142 = .ok (.invokevirtual 94, 3) := by decide +kernel
theorem d_ContentStoreModel_end_145 : decode prog_7_method_9_code 145 = .ok (.aload_n 0, 1) := by decide +kernel
theorem d_ContentStoreModel_end_146 : decode prog_7_method_9_code 146 = .ok (.iconst (-1), 1) := by decide +kernel
theorem d_ContentStoreModel_end_147 : decode prog_7_method_9_code 147 = .ok (.iload_n 2, 1) := by decide +kernel
theorem d_ContentStoreModel_end_148 : decode prog_7_method_9_code 148 = .ok (.invokevirtual 98, 3) := by decide +kernel
theorem d_ContentStoreModel_end_151 : decode prog_7_method_9_code 151 = .ok (.iadd, 1) := by decide +kernel
theorem d_ContentStoreModel_end_152 : decode prog_7_method_9_code 152 = .ok (.aload_n 0, 1) := by decide +kernel
theorem d_ContentStoreModel_end_153 : decode prog_7_method_9_code 153 = .ok (.getfield 66, 3) := by decide +kernel
theorem d_ContentStoreModel_end_156 : decode prog_7_method_9_code 156 = .ok (.if_icmp .gt 12, 3) := by decide +kernel
theorem d_ContentStoreModel_end_159 : decode prog_7_method_9_code 159 = .ok (.aload_n 0, 1) := by decide +kernel
theorem d_ContentStoreModel_end_160 : decode prog_7_method_9_code 160 = .ok (.getfield 73, 3) := by decide +kernel
theorem d_ContentStoreModel_end_163 : decode prog_7_method_9_code 163 = .ok (.bipush 60, 2) := by decide +kernel
theorem d_ContentStoreModel_end_165 : decode prog_7_method_9_code 165 = .ok (.if_icmp .ne 6, 3) := by decide +kernel
theorem d_ContentStoreModel_end_168 : decode prog_7_method_9_code 168 = .ok (.bipush (-3), 2) := by decide +kernel
theorem d_ContentStoreModel_end_170 : decode prog_7_method_9_code 170 = .ok (.ireturn, 1) := by decide +kernel
theorem d_ContentStoreModel_end_171 : decode prog_7_method_9_code 171 = .ok (.aload_n 0, 1) := by decide +kernel
theorem d_ContentStoreModel_end_172 : decode prog_7_method_9_code 172 = .ok (.getfield 73, 3) := by decide +kernel
theorem d_ContentStoreModel_end_175 : decode prog_7_method_9_code 175 = .ok (.istore_n 3, 1) := by decide +kernel
theorem d_ContentStoreModel_end_176 : decode prog_7_method_9_code 176 = .ok (.aload_n 0, 1) := by decide +kernel
theorem d_ContentStoreModel_end_177 : decode prog_7_method_9_code 177 = .ok (.dup, 1) := by decide +kernel
theorem d_ContentStoreModel_end_178 : decode prog_7_method_9_code 178 = .ok (.getfield 73, 3) := by decide +kernel
theorem d_ContentStoreModel_end_181 : decode prog_7_method_9_code 181 = .ok (.iconst 1, 1) := by decide +kernel
theorem d_ContentStoreModel_end_182 : decode prog_7_method_9_code 182 = .ok (.iadd, 1) := by decide +kernel
theorem d_ContentStoreModel_end_183 : decode prog_7_method_9_code 183 = .ok (.putfield 73, 3) := by decide +kernel
theorem d_ContentStoreModel_end_186 : decode prog_7_method_9_code 186 = .ok (.aload_n 0, 1) := by decide +kernel
theorem d_ContentStoreModel_end_187 : decode prog_7_method_9_code 187 = .ok (.getfield 39, 3) := by decide +kernel
theorem d_ContentStoreModel_end_190 : decode prog_7_method_9_code 190 = .ok (.iload_n 3, 1) := by decide +kernel
theorem d_ContentStoreModel_end_191 : decode prog_7_method_9_code 191 = .ok (.iload_n 2, 1) := by decide +kernel
theorem d_ContentStoreModel_end_192 : decode prog_7_method_9_code 192 = .ok (.iastore, 1) := by decide +kernel
theorem d_ContentStoreModel_end_193 : decode prog_7_method_9_code 193 = .ok (.aload_n 0, 1) := by decide +kernel
theorem d_ContentStoreModel_end_194 : decode prog_7_method_9_code 194 = .ok (.getfield 45, 3) := by decide +kernel
theorem d_ContentStoreModel_end_197 : decode prog_7_method_9_code 197 = .ok (.iload_n 3, 1) := by decide +kernel
theorem d_ContentStoreModel_end_198 : decode prog_7_method_9_code 198 = .ok (.aload_n 0, 1) := by decide +kernel
theorem d_ContentStoreModel_end_199 : decode prog_7_method_9_code 199 = .ok (.iload_n 2, 1) := by decide +kernel
theorem d_ContentStoreModel_end_200 : decode prog_7_method_9_code 200 = .ok (.invokevirtual 102, 3) := by decide +kernel
theorem d_ContentStoreModel_end_203 : decode prog_7_method_9_code 203 = .ok (.iastore, 1) := by decide +kernel
theorem d_ContentStoreModel_end_204 : decode prog_7_method_9_code 204 = .ok (.aload_n 0, 1) := by decide +kernel
theorem d_ContentStoreModel_end_205 : decode prog_7_method_9_code 205 = .ok (.getfield 48, 3) := by decide +kernel
theorem d_ContentStoreModel_end_208 : decode prog_7_method_9_code 208 = .ok (.iload_n 3, 1) := by decide +kernel
theorem d_ContentStoreModel_end_209 : decode prog_7_method_9_code 209 = .ok (.aload_n 0, 1) := by decide +kernel
theorem d_ContentStoreModel_end_210 : decode prog_7_method_9_code 210 = .ok (.iload_n 2, 1) := by decide +kernel
theorem d_ContentStoreModel_end_211 : decode prog_7_method_9_code 211 = .ok (.invokevirtual 106, 3) := by decide +kernel
theorem d_ContentStoreModel_end_214 : decode prog_7_method_9_code 214 = .ok (.lastore, 1) := by decide +kernel
theorem d_ContentStoreModel_end_215 : decode prog_7_method_9_code 215 = .ok (.aload_n 0, 1) := by decide +kernel
theorem d_ContentStoreModel_end_216 : decode prog_7_method_9_code 216 = .ok (.iload_n 3, 1) := by decide +kernel
theorem d_ContentStoreModel_end_217 : decode prog_7_method_9_code 217 = .ok (.iconst 0, 1) := by decide +kernel
theorem d_ContentStoreModel_end_218 : decode prog_7_method_9_code 218 = .ok (.invokevirtual 110, 3) := by decide +kernel
theorem d_ContentStoreModel_end_221 : decode prog_7_method_9_code 221 = .ok (.aload_n 0, 1) := by decide +kernel
theorem d_ContentStoreModel_end_222 : decode prog_7_method_9_code 222 = .ok (.getfield 36, 3) := by decide +kernel
theorem d_ContentStoreModel_end_225 : decode prog_7_method_9_code 225 = .ok (.iload_n 3, 1) := by decide +kernel
theorem d_ContentStoreModel_end_226 : decode prog_7_method_9_code 226 = .ok (.iconst 1, 1) := by decide +kernel
theorem d_ContentStoreModel_end_227 : decode prog_7_method_9_code 227 = .ok (.bastore, 1) := by decide +kernel
theorem d_ContentStoreModel_end_228 : decode prog_7_method_9_code 228 = .ok (.iload_n 3, 1) := by decide +kernel
theorem d_ContentStoreModel_end_229 : decode prog_7_method_9_code 229 = .ok (.ireturn, 1) := by decide +kernel
theorem d_ContentStoreModel_isSound_0 : decode prog_7_method_26_code 0 = .ok (.iconst 0, 1) := by decide +kernel
theorem d_ContentStoreModel_isSound_1 : decode prog_7_method_26_code 1 = .ok (.istore_n 2, 1) := by decide +kernel
theorem d_ContentStoreModel_isSound_2 : decode prog_7_method_26_code 2 = .ok (.iconst 0, 1) := by decide +kernel
theorem d_ContentStoreModel_isSound_3 : decode prog_7_method_26_code 3 = .ok (.istore_n 3, 1) := by decide +kernel
theorem d_ContentStoreModel_isSound_4 : decode prog_7_method_26_code 4 = .ok (.iload_n 3, 1) := by decide +kernel
theorem d_ContentStoreModel_isSound_5 : decode prog_7_method_26_code 5 = .ok (.aload_n 0, 1) := by decide +kernel
theorem d_ContentStoreModel_isSound_6 : decode prog_7_method_26_code 6 = .ok (.getfield 39, 3) := by decide +kernel
theorem d_ContentStoreModel_isSound_9 : decode prog_7_method_26_code 9 = .ok (.iload_n 1, 1) := by decide +kernel
theorem d_ContentStoreModel_isSound_10 : decode prog_7_method_26_code 10 = .ok (.iaload, 1) := by decide +kernel
theorem d_ContentStoreModel_isSound_11 : decode prog_7_method_26_code 11 = .ok (.if_icmp .ge 20, 3) := by decide +kernel
theorem d_ContentStoreModel_isSound_14 : decode prog_7_method_26_code 14 = .ok (.iload_n 2, 1) := by decide +kernel
theorem d_ContentStoreModel_isSound_15 : decode prog_7_method_26_code 15 = .ok (.aload_n 0, 1) := by decide +kernel
theorem d_ContentStoreModel_isSound_16 : decode prog_7_method_26_code 16 = .ok (.iload_n 1, 1) := by decide +kernel
theorem d_ContentStoreModel_isSound_17 : decode prog_7_method_26_code 17 = .ok (.iload_n 3, 1) := by decide +kernel
theorem d_ContentStoreModel_isSound_18 : decode prog_7_method_26_code 18 = .ok (.invokevirtual 146, 3) := by decide +kernel
theorem d_ContentStoreModel_isSound_21 : decode prog_7_method_26_code 21 = .ok (.invokestatic 114, 3) := by decide +kernel
theorem d_ContentStoreModel_isSound_24 : decode prog_7_method_26_code 24 = .ok (.istore_n 2, 1) := by decide +kernel
theorem d_ContentStoreModel_isSound_25 : decode prog_7_method_26_code 25 = .ok (.iinc 3 1, 3) := by decide +kernel
theorem d_ContentStoreModel_isSound_28 : decode prog_7_method_26_code 28 = .ok (.goto (-24), 3) := by decide +kernel
theorem d_ContentStoreModel_isSound_31 : decode prog_7_method_26_code 31 = .ok (.iload_n 2, 1) := by decide +kernel
theorem d_ContentStoreModel_isSound_32 : decode prog_7_method_26_code 32 = .ok (.aload_n 0, 1) := by decide +kernel
theorem d_ContentStoreModel_isSound_33 : decode prog_7_method_26_code 33 = .ok (.getfield 45, 3) := by decide +kernel
theorem d_ContentStoreModel_isSound_36 : decode prog_7_method_26_code 36 = .ok (.iload_n 1, 1) := by decide +kernel
theorem d_ContentStoreModel_isSound_37 : decode prog_7_method_26_code 37 = .ok (.iaload, 1) := by decide +kernel
theorem d_ContentStoreModel_isSound_38 : decode prog_7_method_26_code 38 = .ok (.if_icmp .ne 7, 3) := by decide +kernel
theorem d_ContentStoreModel_isSound_41 : decode prog_7_method_26_code 41 = .ok (.iconst 1, 1) := by decide +kernel
theorem d_ContentStoreModel_isSound_42 : decode prog_7_method_26_code 42 = .ok (.goto 4, 3) := by decide +kernel
theorem d_ContentStoreModel_isSound_45 : decode prog_7_method_26_code 45 = .ok (.iconst 0, 1) := by decide +kernel
theorem d_ContentStoreModel_isSound_46 : decode prog_7_method_26_code 46 = .ok (.ireturn, 1) := by decide +kernel
theorem d_ContentStoreModel_byteOf_0 : decode prog_7_method_14_code 0 = .ok (.aload_n 0, 1) := by decide +kernel
theorem d_ContentStoreModel_byteOf_1 : decode prog_7_method_14_code 1 = .ok (.getfield 33, 3) := by decide +kernel
theorem d_ContentStoreModel_byteOf_4 : decode prog_7_method_14_code 4 = .ok (.bipush 16, 2) := by decide +kernel
theorem d_ContentStoreModel_byteOf_6 : decode prog_7_method_14_code 6 = .ok (.aload_n 0, 1) := by decide +kernel
theorem d_ContentStoreModel_byteOf_7 : decode prog_7_method_14_code 7 = .ok (.getfield 42, 3) := by decide +kernel
theorem d_ContentStoreModel_byteOf_10 : decode prog_7_method_14_code 10 = .ok (.bipush 6, 2) := by decide +kernel
theorem d_ContentStoreModel_byteOf_12 : decode prog_7_method_14_code 12 = .ok (.iload_n 1, 1) := by decide +kernel
theorem d_ContentStoreModel_byteOf_13 : decode prog_7_method_14_code 13 = .ok (.imul, 1) := by decide +kernel
theorem d_ContentStoreModel_byteOf_14 : decode prog_7_method_14_code 14 = .ok (.iload_n 2, 1) := by decide +kernel
theorem d_ContentStoreModel_byteOf_15 : decode prog_7_method_14_code 15 = .ok (.bipush 16, 2) := by decide +kernel
theorem d_ContentStoreModel_byteOf_17 : decode prog_7_method_14_code 17 = .ok (.idiv, 1) := by decide +kernel
theorem d_ContentStoreModel_byteOf_18 : decode prog_7_method_14_code 18 = .ok (.iadd, 1) := by decide +kernel
theorem d_ContentStoreModel_byteOf_19 : decode prog_7_method_14_code 19 = .ok (.iaload, 1) := by decide +kernel
theorem d_ContentStoreModel_byteOf_20 : decode prog_7_method_14_code 20 = .ok (.imul, 1) := by decide +kernel
theorem d_ContentStoreModel_byteOf_21 : decode prog_7_method_14_code 21 = .ok (.iload_n 2, 1) := by decide +kernel
theorem d_ContentStoreModel_byteOf_22 : decode prog_7_method_14_code 22 = .ok (.bipush 16, 2) := by decide +kernel
theorem d_ContentStoreModel_byteOf_24 : decode prog_7_method_14_code 24 = .ok (.irem, 1) := by decide +kernel
theorem d_ContentStoreModel_byteOf_25 : decode prog_7_method_14_code 25 = .ok (.iadd, 1) := by decide +kernel
theorem d_ContentStoreModel_byteOf_26 : decode prog_7_method_14_code 26 = .ok (.iaload, 1) := by decide +kernel
theorem d_ContentStoreModel_byteOf_27 : decode prog_7_method_14_code 27 = .ok (.ireturn, 1) := by decide +kernel
theorem d_ContentStoreModel_turned_0 : decode prog_7_method_6_code 0 = .ok (.iload_n 0, 1) := by decide +kernel
theorem d_ContentStoreModel_turned_1 : decode prog_7_method_6_code 1 = .ok (.iload_n 1, 1) := by decide +kernel
theorem d_ContentStoreModel_turned_2 : decode prog_7_method_6_code 2 = .ok (.ixor, 1) := by decide +kernel
theorem d_ContentStoreModel_turned_3 : decode prog_7_method_6_code 3 = .ok (.istore_n 2, 1) := by decide +kernel
theorem d_ContentStoreModel_turned_4 : decode prog_7_method_6_code 4 = .ok (.iload_n 2, 1) := by decide +kernel
theorem d_ContentStoreModel_turned_5 : decode prog_7_method_6_code 5 = .ok (.iconst 5, 1) := by decide +kernel
theorem d_ContentStoreModel_turned_6 : decode prog_7_method_6_code 6 = .ok (.ishl, 1) := by decide +kernel
