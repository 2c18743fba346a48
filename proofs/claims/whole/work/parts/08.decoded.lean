theorem d_ContentStoreModel_turned_7 : decode prog_7_method_6_code 7 = .ok (.iload_n 2, 1) := by decide +kernel
theorem d_ContentStoreModel_turned_8 : decode prog_7_method_6_code 8 = .ok (.bipush 27, 2) := by decide +kernel
theorem d_ContentStoreModel_turned_10 : decode prog_7_method_6_code 10 = .ok (.iushr, 1) := by decide +kernel
theorem d_ContentStoreModel_turned_11 : decode prog_7_method_6_code 11 = .ok (.ior, 1) := by decide +kernel
theorem d_ContentStoreModel_turned_12 : decode prog_7_method_6_code 12 = .ok (.ldc 83, 2) := by decide +kernel
theorem d_ContentStoreModel_turned_14 : decode prog_7_method_6_code 14 = .ok (.imul, 1) := by decide +kernel
theorem d_ContentStoreModel_turned_15 : decode prog_7_method_6_code 15 = .ok (.ireturn, 1) := by decide +kernel
theorem d_ContentStoreModel_isWork_0 : decode prog_7_method_25_code 0 = .ok (.iconst 1, 1) := by decide +kernel
theorem d_ContentStoreModel_isWork_1 : decode prog_7_method_25_code 1 = .ok (.istore_n 2, 1) := by decide +kernel
theorem d_ContentStoreModel_isWork_2 : decode prog_7_method_25_code 2 = .ok (.iconst 0, 1) := by decide +kernel
theorem d_ContentStoreModel_isWork_3 : decode prog_7_method_25_code 3 = .ok (.istore_n 3, 1) := by decide +kernel
theorem d_ContentStoreModel_isWork_4 : decode prog_7_method_25_code 4 = .ok (.iload_n 3, 1) := by decide +kernel
theorem d_ContentStoreModel_isWork_5 : decode prog_7_method_25_code 5 = .ok (.aload_n 0, 1) := by decide +kernel
theorem d_ContentStoreModel_isWork_6 : decode prog_7_method_25_code 6 = .ok (.getfield 39, 3) := by decide +kernel
theorem d_ContentStoreModel_isWork_9 : decode prog_7_method_25_code 9 = .ok (.iload_n 1, 1) := by decide +kernel
theorem d_ContentStoreModel_isWork_10 : decode prog_7_method_25_code 10 = .ok (.iaload, 1) := by decide +kernel
theorem d_ContentStoreModel_isWork_11 : decode prog_7_method_25_code 11 = .ok (.if_icmp .ge 34, 3) := by decide +kernel
theorem d_ContentStoreModel_isWork_14 : decode prog_7_method_25_code 14 = .ok (.iload_n 2, 1) := by decide +kernel
theorem d_ContentStoreModel_isWork_15 : decode prog_7_method_25_code 15 = .ok (.ifCond .eq 30, 3) := by decide +kernel
theorem d_ContentStoreModel_isWork_18 : decode prog_7_method_25_code 18 = .ok (.aload_n 0, 1) := by decide +kernel
theorem d_ContentStoreModel_isWork_19 : decode prog_7_method_25_code 19 = .ok (.iload_n 1, 1) := by decide +kernel
theorem d_ContentStoreModel_isWork_20 : decode prog_7_method_25_code 20 = .ok (.iload_n 3, 1) := by decide +kernel
theorem d_ContentStoreModel_isWork_21 : decode prog_7_method_25_code 21 = .ok (.invokevirtual 146, 3) := by decide +kernel
theorem d_ContentStoreModel_isWork_24 : decode prog_7_method_25_code 24 = .ok (.aload_n 0, 1) := by decide +kernel
theorem d_ContentStoreModel_isWork_25 : decode prog_7_method_25_code 25 = .ok (.getfield 63, 3) := by decide +kernel
theorem d_ContentStoreModel_isWork_28 : decode prog_7_method_25_code 28 = .ok (.iload_n 3, 1) := by decide +kernel
theorem d_ContentStoreModel_isWork_29 : decode prog_7_method_25_code 29 = .ok (.iaload, 1) := by decide +kernel
theorem d_ContentStoreModel_isWork_30 : decode prog_7_method_25_code 30 = .ok (.if_icmp .ne 7, 3) := by decide +kernel
theorem d_ContentStoreModel_isWork_33 : decode prog_7_method_25_code 33 = .ok (.iconst 1, 1) := by decide +kernel
theorem d_ContentStoreModel_isWork_34 : decode prog_7_method_25_code 34 = .ok (.goto 4, 3) := by decide +kernel
theorem d_ContentStoreModel_isWork_37 : decode prog_7_method_25_code 37 = .ok (.iconst 0, 1) := by decide +kernel
theorem d_ContentStoreModel_isWork_38 : decode prog_7_method_25_code 38 = .ok (.istore_n 2, 1) := by decide +kernel
theorem d_ContentStoreModel_isWork_39 : decode prog_7_method_25_code 39 = .ok (.iinc 3 1, 3) := by decide +kernel
theorem d_ContentStoreModel_isWork_42 : decode prog_7_method_25_code 42 = .ok (.goto (-38), 3) := by decide +kernel
theorem d_ContentStoreModel_isWork_45 : decode prog_7_method_25_code 45 = .ok (.iload_n 2, 1) := by decide +kernel
theorem d_ContentStoreModel_isWork_46 : decode prog_7_method_25_code 46 = .ok (.ireturn, 1) := by decide +kernel
theorem d_ContentStoreModel_used_0 : decode prog_7_method_20_code 0 = .ok (.iconst 0, 1) := by decide +kernel
theorem d_ContentStoreModel_used_1 : decode prog_7_method_20_code 1 = .ok (.istore_n 1, 1) := by decide +kernel
theorem d_ContentStoreModel_used_2 : decode prog_7_method_20_code 2 = .ok (.iconst 0, 1) := by decide +kernel
theorem d_ContentStoreModel_used_3 : decode prog_7_method_20_code 3 = .ok (.istore_n 2, 1) := by decide +kernel
theorem d_ContentStoreModel_used_4 : decode prog_7_method_20_code 4 = .ok (.iload_n 2, 1) := by decide +kernel
theorem d_ContentStoreModel_used_5 : decode prog_7_method_20_code 5 = .ok (.sipush 400, 3) := by decide +kernel
theorem d_ContentStoreModel_used_8 : decode prog_7_method_20_code 8 = .ok (.if_icmp .ge 18, 3) := by decide +kernel
theorem d_ContentStoreModel_used_11 : decode prog_7_method_20_code 11 = .ok (.iload_n 1, 1) := by decide +kernel
theorem d_ContentStoreModel_used_12 : decode prog_7_method_20_code 12 = .ok (.aload_n 0, 1) := by decide +kernel
theorem d_ContentStoreModel_used_13 : decode prog_7_method_20_code 13 = .ok (.getfield 27, 3) := by decide +kernel
theorem d_ContentStoreModel_used_16 : decode prog_7_method_20_code 16 = .ok (.iload_n 2, 1) := by decide +kernel
theorem d_ContentStoreModel_used_17 : decode prog_7_method_20_code 17 = .ok (.iaload, 1) := by decide +kernel
theorem d_ContentStoreModel_used_18 : decode prog_7_method_20_code 18 = .ok (.iadd, 1) := by decide +kernel
theorem d_ContentStoreModel_used_19 : decode prog_7_method_20_code 19 = .ok (.istore_n 1, 1) := by decide +kernel
theorem d_ContentStoreModel_used_20 : decode prog_7_method_20_code 20 = .ok (.iinc 2 1, 3) := by decide +kernel
theorem d_ContentStoreModel_used_23 : decode prog_7_method_20_code 23 = .ok (.goto (-19), 3) := by decide +kernel
theorem d_ContentStoreModel_used_26 : decode prog_7_method_20_code 26 = .ok (.iload_n 1, 1) := by decide +kernel
theorem d_ContentStoreModel_used_27 : decode prog_7_method_20_code 27 = .ok (.ireturn, 1) := by decide +kernel
theorem d_ContentStoreModel_missing_0 : decode prog_7_method_19_code 0 = .ok (.iconst 0, 1) := by decide +kernel
theorem d_ContentStoreModel_missing_1 : decode prog_7_method_19_code 1 = .ok (.istore_n 3, 1) := by decide +kernel
theorem d_ContentStoreModel_missing_2 : decode prog_7_method_19_code 2 = .ok (.iconst 0, 1) := by decide +kernel
theorem d_ContentStoreModel_missing_3 : decode prog_7_method_19_code 3 = .ok (.istore 4, 2) := by decide +kernel
theorem d_ContentStoreModel_missing_5 : decode prog_7_method_19_code 5 = .ok (.iload 4, 2) := by decide +kernel
theorem d_ContentStoreModel_missing_7 : decode prog_7_method_19_code 7 = .ok (.iload_n 2, 1) := by decide +kernel
theorem d_ContentStoreModel_missing_8 : decode prog_7_method_19_code 8 = .ok (.invokestatic 125, 3) := by decide +kernel
theorem d_ContentStoreModel_missing_11 : decode prog_7_method_19_code 11 = .ok (.if_icmp .ge 95, 3) := by decide +kernel
theorem d_ContentStoreModel_missing_14 : decode prog_7_method_19_code 14 = .ok (.aload_n 0, 1) := by decide +kernel
theorem d_ContentStoreModel_missing_15 : decode prog_7_method_19_code 15 = .ok (.iload_n 1, 1) := by decide +kernel
theorem d_ContentStoreModel_missing_16 : decode prog_7_method_19_code 16 = .ok (.iload 4, 2) := by decide +kernel
theorem d_ContentStoreModel_missing_18 : decode prog_7_method_19_code 18 = .ok (.iload_n 2, 1) := by decide +kernel
theorem d_ContentStoreModel_missing_19 : decode prog_7_method_19_code 19 = .ok (.invokevirtual 128, 3) := by decide +kernel
theorem d_ContentStoreModel_missing_22 : decode prog_7_method_19_code 22 = .ok (.ifCond .ne 17, 3) := by decide +kernel
theorem d_ContentStoreModel_missing_25 : decode prog_7_method_19_code 25 = .ok (.aload_n 0, 1) := by decide +kernel
theorem d_ContentStoreModel_missing_26 : decode prog_7_method_19_code 26 = .ok (.iload 4, 2) := by decide +kernel
theorem d_ContentStoreModel_missing_28 : decode prog_7_method_19_code 28 = .ok (.iload_n 2, 1) := by decide +kernel
theorem d_ContentStoreModel_missing_29 : decode prog_7_method_19_code 29 = .ok (.invokevirtual 131, 3) := by decide +kernel
theorem d_ContentStoreModel_missing_32 : decode prog_7_method_19_code 32 = .ok (.ifCond .ge 7, 3) := by decide +kernel
theorem d_ContentStoreModel_missing_35 : decode prog_7_method_19_code 35 = .ok (.iconst 1, 1) := by decide +kernel
theorem d_ContentStoreModel_missing_36 : decode prog_7_method_19_code 36 = .ok (.goto 4, 3) := by decide +kernel
theorem d_ContentStoreModel_missing_39 : decode prog_7_method_19_code 39 = .ok (.iconst 0, 1) := by decide +kernel
theorem d_ContentStoreModel_missing_40 : decode prog_7_method_19_code 40 = .ok (.istore 5, 2) := by decide +kernel
theorem d_ContentStoreModel_missing_42 : decode prog_7_method_19_code 42 = .ok (.iconst 0, 1) := by decide +kernel
theorem d_ContentStoreModel_missing_43 : decode prog_7_method_19_code 43 = .ok (.istore 6, 2) := by decide +kernel
theorem d_ContentStoreModel_missing_45 : decode prog_7_method_19_code 45 = .ok (.iload 6, 2) := by decide +kernel
theorem d_ContentStoreModel_missing_47 : decode prog_7_method_19_code 47 = .ok (.iload 4, 2) := by decide +kernel
theorem d_ContentStoreModel_missing_49 : decode prog_7_method_19_code 49 = .ok (.if_icmp .ge 33, 3) := by decide +kernel
theorem d_ContentStoreModel_missing_52 : decode prog_7_method_19_code 52 = .ok (.iload 5, 2) := by decide +kernel
theorem d_ContentStoreModel_missing_54 : decode prog_7_method_19_code 54 = .ok (.ifCond .eq 28, 3) := by decide +kernel
theorem d_ContentStoreModel_missing_57 : decode prog_7_method_19_code 57 = .ok (.aload_n 0, 1) := by decide +kernel
theorem d_ContentStoreModel_missing_58 : decode prog_7_method_19_code 58 = .ok (.iload 6, 2) := by decide +kernel
theorem d_ContentStoreModel_missing_60 : decode prog_7_method_19_code 60 = .ok (.iload 4, 2) := by decide +kernel
theorem d_ContentStoreModel_missing_62 : decode prog_7_method_19_code 62 = .ok (.iload_n 2, 1) := by decide +kernel
theorem d_ContentStoreModel_missing_63 : decode prog_7_method_19_code 63 = .ok (.invokevirtual 134, 3) := by decide +kernel
theorem d_ContentStoreModel_missing_66 : decode prog_7_method_19_code 66 = .ok (.ifCond .ne 7, 3) := by decide +kernel
theorem d_ContentStoreModel_missing_69 : decode prog_7_method_19_code 69 = .ok (.iconst 1, 1) := by decide +kernel
theorem d_ContentStoreModel_missing_70 : decode prog_7_method_19_code 70 = .ok (.goto 4, 3) := by decide +kernel
theorem d_ContentStoreModel_missing_73 : decode prog_7_method_19_code 73 = .ok (.iconst 0, 1) := by decide +kernel
theorem d_ContentStoreModel_missing_74 : decode prog_7_method_19_code 74 = .ok (.istore 5, 2) := by decide +kernel
theorem d_ContentStoreModel_missing_76 : decode prog_7_method_19_code 76 = .ok (.iinc 6 1, 3) := by decide +kernel
theorem d_ContentStoreModel_missing_79 : decode prog_7_method_19_code 79 = .ok (.goto (-34), 3) := by decide +kernel
theorem d_ContentStoreModel_missing_82 : decode prog_7_method_19_code 82 = .ok (.iload_n 3, 1) := by decide +kernel
theorem d_ContentStoreModel_missing_83 : decode prog_7_method_19_code 83 = .ok (.iload 5, 2) := by decide +kernel
theorem d_ContentStoreModel_missing_85 : decode prog_7_method_19_code 85 = .ok (.ifCond .eq 12, 3) := by decide +kernel
theorem d_ContentStoreModel_missing_88 : decode prog_7_method_19_code 88 = .ok (.iload_n 2, 1) := by decide +kernel
theorem d_ContentStoreModel_missing_89 : decode prog_7_method_19_code 89 = .ok (.iload 4, 2) := by decide +kernel
theorem d_ContentStoreModel_missing_91 : decode prog_7_method_19_code 91 = .ok (.invokestatic 119, 3) := by decide +kernel
theorem d_ContentStoreModel_missing_94 : decode prog_7_method_19_code 94 = .ok (.goto 4, 3) := by decide +kernel
theorem d_ContentStoreModel_missing_97 : decode prog_7_method_19_code 97 = .ok (.iconst 0, 1) := by decide +kernel
theorem d_ContentStoreModel_missing_98 : decode prog_7_method_19_code 98 = .ok (.iadd, 1) := by decide +kernel
theorem d_ContentStoreModel_missing_99 : decode prog_7_method_19_code 99 = .ok (.istore_n 3, 1) := by decide +kernel
theorem d_ContentStoreModel_missing_100 : decode prog_7_method_19_code 100 = .ok (.iinc 4 1, 3) := by decide +kernel
theorem d_ContentStoreModel_missing_103 : decode prog_7_method_19_code 103 = .ok (.goto (-98), 3) := by decide +kernel
theorem d_ContentStoreModel_missing_106 : decode prog_7_method_19_code 106 = .ok (.iload_n 3, 1) := by decide +kernel
theorem d_ContentStoreModel_missing_107 : decode prog_7_method_19_code 107 = .ok (.ireturn, 1) := by decide +kernel
theorem d_ContentStoreModel_parts_0 : decode prog_7_method_12_code 0 = .ok (.iload_n 0, 1) := by decide +kernel
theorem d_ContentStoreModel_parts_1 : decode prog_7_method_12_code 1 = .ok (.bipush 16, 2) := by decide +kernel
theorem d_ContentStoreModel_parts_3 : decode prog_7_method_12_code 3 = .ok (.iadd, 1) := by decide +kernel
theorem d_ContentStoreModel_parts_4 : decode prog_7_method_12_code 4 = .ok (.iconst 1, 1) := by decide +kernel
theorem d_ContentStoreModel_parts_5 : decode prog_7_method_12_code 5 = .ok (.isub, 1) := by decide +kernel
theorem d_ContentStoreModel_parts_6 : decode prog_7_method_12_code 6 = .ok (.bipush 16, 2) := by decide +kernel
theorem d_ContentStoreModel_parts_8 : decode prog_7_method_12_code 8 = .ok (.idiv, 1) := by decide +kernel
theorem d_ContentStoreModel_parts_9 : decode prog_7_method_12_code 9 = .ok (.ireturn, 1) := by decide +kernel
theorem d_ContentStoreModel_stays_0 : decode prog_7_method_18_code 0 = .ok (.iload_n 1, 1) := by decide +kernel
theorem d_ContentStoreModel_stays_1 : decode prog_7_method_18_code 1 = .ok (.ifCond .lt 27, 3) := by decide +kernel
theorem d_ContentStoreModel_stays_4 : decode prog_7_method_18_code 4 = .ok (.aload_n 0, 1) := by decide +kernel
theorem d_ContentStoreModel_stays_5 : decode prog_7_method_18_code 5 = .ok (.aload_n 0, 1) := by decide +kernel
theorem d_ContentStoreModel_stays_6 : decode prog_7_method_18_code 6 = .ok (.getfield 42, 3) := by decide +kernel
theorem d_ContentStoreModel_stays_9 : decode prog_7_method_18_code 9 = .ok (.bipush 6, 2) := by decide +kernel
theorem d_ContentStoreModel_stays_11 : decode prog_7_method_18_code 11 = .ok (.iload_n 1, 1) := by decide +kernel
theorem d_ContentStoreModel_stays_12 : decode prog_7_method_18_code 12 = .ok (.imul, 1) := by decide +kernel
theorem d_ContentStoreModel_stays_13 : decode prog_7_method_18_code 13 = .ok (.iload_n 2, 1) := by decide +kernel
theorem d_ContentStoreModel_stays_14 : decode prog_7_method_18_code 14 = .ok (.iadd, 1) := by decide +kernel
theorem d_ContentStoreModel_stays_15 : decode prog_7_method_18_code 15 = .ok (.iaload, 1) := by decide +kernel
theorem d_ContentStoreModel_stays_16 : decode prog_7_method_18_code 16 = .ok (.iload_n 2, 1) := by decide +kernel
theorem d_ContentStoreModel_stays_17 : decode prog_7_method_18_code 17 = .ok (.iload_n 3, 1) := by decide +kernel
theorem d_ContentStoreModel_stays_18 : decode prog_7_method_18_code 18 = .ok (.invokevirtual 122, 3) := by decide +kernel
theorem d_ContentStoreModel_stays_21 : decode prog_7_method_18_code 21 = .ok (.ifCond .eq 7, 3) := by decide +kernel
theorem d_ContentStoreModel_stays_24 : decode prog_7_method_18_code 24 = .ok (.iconst 1, 1) := by decide +kernel
theorem d_ContentStoreModel_stays_25 : decode prog_7_method_18_code 25 = .ok (.goto 4, 3) := by decide +kernel
theorem d_ContentStoreModel_stays_28 : decode prog_7_method_18_code 28 = .ok (.iconst 0, 1) := by decide +kernel
theorem d_ContentStoreModel_stays_29 : decode prog_7_method_18_code 29 = .ok (.ireturn, 1) := by decide +kernel
theorem d_ContentStoreModel_isPart_0 : decode prog_7_method_15_code 0 = .ok (.aload_n 0, 1) := by decide +kernel
theorem d_ContentStoreModel_isPart_1 : decode prog_7_method_15_code 1 = .ok (.getfield 27, 3) := by decide +kernel
theorem d_ContentStoreModel_isPart_4 : decode prog_7_method_15_code 4 = .ok (.iload_n 1, 1) := by decide +kernel
theorem d_ContentStoreModel_isPart_5 : decode prog_7_method_15_code 5 = .ok (.iaload, 1) := by decide +kernel
theorem d_ContentStoreModel_isPart_6 : decode prog_7_method_15_code 6 = .ok (.iload_n 3, 1) := by decide +kernel
theorem d_ContentStoreModel_isPart_7 : decode prog_7_method_15_code 7 = .ok (.iload_n 2, 1) := by decide +kernel
theorem d_ContentStoreModel_isPart_8 : decode prog_7_method_15_code 8 = .ok (.invokestatic 119, 3) := by decide +kernel
theorem d_ContentStoreModel_isPart_11 : decode prog_7_method_15_code 11 = .ok (.if_icmp .ne 7, 3) := by decide +kernel
theorem d_ContentStoreModel_isPart_14 : decode prog_7_method_15_code 14 = .ok (.iconst 1, 1) := by decide +kernel
theorem d_ContentStoreModel_isPart_15 : decode prog_7_method_15_code 15 = .ok (.goto 4, 3) := by decide +kernel
theorem d_ContentStoreModel_isPart_18 : decode prog_7_method_15_code 18 = .ok (.iconst 0, 1) := by decide +kernel
theorem d_ContentStoreModel_isPart_19 : decode prog_7_method_15_code 19 = .ok (.istore 4, 2) := by decide +kernel
theorem d_ContentStoreModel_isPart_21 : decode prog_7_method_15_code 21 = .ok (.iconst 0, 1) := by decide +kernel
theorem d_ContentStoreModel_isPart_22 : decode prog_7_method_15_code 22 = .ok (.istore 5, 2) := by decide +kernel
theorem d_ContentStoreModel_isPart_24 : decode prog_7_method_15_code 24 = .ok (.iload 5, 2) := by decide +kernel
theorem d_ContentStoreModel_isPart_26 : decode prog_7_method_15_code 26 = .ok (.iload_n 3, 1) := by decide +kernel
theorem d_ContentStoreModel_isPart_27 : decode prog_7_method_15_code 27 = .ok (.iload_n 2, 1) := by decide +kernel
theorem d_ContentStoreModel_isPart_28 : decode prog_7_method_15_code 28 = .ok (.invokestatic 119, 3) := by decide +kernel
theorem d_ContentStoreModel_isPart_31 : decode prog_7_method_15_code 31 = .ok (.if_icmp .ge 48, 3) := by decide +kernel
theorem d_ContentStoreModel_isPart_34 : decode prog_7_method_15_code 34 = .ok (.iload 4, 2) := by decide +kernel
theorem d_ContentStoreModel_isPart_36 : decode prog_7_method_15_code 36 = .ok (.ifCond .eq 43, 3) := by decide +kernel
theorem d_ContentStoreModel_isPart_39 : decode prog_7_method_15_code 39 = .ok (.aload_n 0, 1) := by decide +kernel
theorem d_ContentStoreModel_isPart_40 : decode prog_7_method_15_code 40 = .ok (.getfield 33, 3) := by decide +kernel
theorem d_ContentStoreModel_isPart_43 : decode prog_7_method_15_code 43 = .ok (.bipush 16, 2) := by decide +kernel
theorem d_ContentStoreModel_isPart_45 : decode prog_7_method_15_code 45 = .ok (.iload_n 1, 1) := by decide +kernel
theorem d_ContentStoreModel_isPart_46 : decode prog_7_method_15_code 46 = .ok (.imul, 1) := by decide +kernel
theorem d_ContentStoreModel_isPart_47 : decode prog_7_method_15_code 47 = .ok (.iload 5, 2) := by decide +kernel
theorem d_ContentStoreModel_isPart_49 : decode prog_7_method_15_code 49 = .ok (.iadd, 1) := by decide +kernel
theorem d_ContentStoreModel_isPart_50 : decode prog_7_method_15_code 50 = .ok (.iaload, 1) := by decide +kernel
theorem d_ContentStoreModel_isPart_51 : decode prog_7_method_15_code 51 = .ok (.aload_n 0, 1) := by decide +kernel
theorem d_ContentStoreModel_isPart_52 : decode prog_7_method_15_code 52 = .ok (.getfield 63, 3) := by decide +kernel
theorem d_ContentStoreModel_isPart_55 : decode prog_7_method_15_code 55 = .ok (.bipush 16, 2) := by decide +kernel
theorem d_ContentStoreModel_isPart_57 : decode prog_7_method_15_code 57 = .ok (.iload_n 2, 1) := by decide +kernel
theorem d_ContentStoreModel_isPart_58 : decode prog_7_method_15_code 58 = .ok (.imul, 1) := by decide +kernel
theorem d_ContentStoreModel_isPart_59 : decode prog_7_method_15_code 59 = .ok (.iload 5, 2) := by decide +kernel
theorem d_ContentStoreModel_isPart_61 : decode prog_7_method_15_code 61 = .ok (.iadd, 1) := by decide +kernel
theorem d_ContentStoreModel_isPart_62 : decode prog_7_method_15_code 62 = .ok (.iaload, 1) := by decide +kernel
theorem d_ContentStoreModel_isPart_63 : decode prog_7_method_15_code 63 = .ok (.if_icmp .ne 7, 3) := by decide +kernel
theorem d_ContentStoreModel_isPart_66 : decode prog_7_method_15_code 66 = .ok (.iconst 1, 1) := by decide +kernel
theorem d_ContentStoreModel_isPart_67 : decode prog_7_method_15_code 67 = .ok (.goto 4, 3) := by decide +kernel
theorem d_ContentStoreModel_isPart_70 : decode prog_7_method_15_code 70 = .ok (.iconst 0, 1) := by decide +kernel
theorem d_ContentStoreModel_isPart_71 : decode prog_7_method_15_code 71 = .ok (.istore 4, 2) := by decide +kernel
theorem d_ContentStoreModel_isPart_73 : decode prog_7_method_15_code 73 = .ok (.iinc 5 1, 3) := by decide +kernel
theorem d_ContentStoreModel_isPart_76 : decode prog_7_method_15_code 76 = .ok (.goto (-52), 3) := by decide +kernel
theorem d_ContentStoreModel_isPart_79 : decode prog_7_method_15_code 79 = .ok (.iload 4, 2) := by decide +kernel
theorem d_ContentStoreModel_isPart_81 : decode prog_7_method_15_code 81 = .ok (.ireturn, 1) := by decide +kernel
theorem d_ContentStoreModel_wide_0 : decode prog_7_method_13_code 0 = .ok (.iload_n 0, 1) := by decide +kernel
theorem d_ContentStoreModel_wide_1 : decode prog_7_method_13_code 1 = .ok (.bipush 16, 2) := by decide +kernel
theorem d_ContentStoreModel_wide_3 : decode prog_7_method_13_code 3 = .ok (.iload_n 1, 1) := by decide +kernel
theorem d_ContentStoreModel_wide_4 : decode prog_7_method_13_code 4 = .ok (.imul, 1) := by decide +kernel
theorem d_ContentStoreModel_wide_5 : decode prog_7_method_13_code 5 = .ok (.isub, 1) := by decide +kernel
theorem d_ContentStoreModel_wide_6 : decode prog_7_method_13_code 6 = .ok (.bipush 16, 2) := by decide +kernel
theorem d_ContentStoreModel_wide_8 : decode prog_7_method_13_code 8 = .ok (.if_icmp .ge 12, 3) := by decide +kernel
theorem d_ContentStoreModel_wide_11 : decode prog_7_method_13_code 11 = .ok (.iload_n 0, 1) := by decide +kernel
theorem d_ContentStoreModel_wide_12 : decode prog_7_method_13_code 12 = .ok (.bipush 16, 2) := by decide +kernel
theorem d_ContentStoreModel_wide_14 : decode prog_7_method_13_code 14 = .ok (.iload_n 1, 1) := by decide +kernel
theorem d_ContentStoreModel_wide_15 : decode prog_7_method_13_code 15 = .ok (.imul, 1) := by decide +kernel
theorem d_ContentStoreModel_wide_16 : decode prog_7_method_13_code 16 = .ok (.isub, 1) := by decide +kernel
theorem d_ContentStoreModel_wide_17 : decode prog_7_method_13_code 17 = .ok (.goto 5, 3) := by decide +kernel
theorem d_ContentStoreModel_wide_20 : decode prog_7_method_13_code 20 = .ok (.bipush 16, 2) := by decide +kernel
theorem d_ContentStoreModel_wide_22 : decode prog_7_method_13_code 22 = .ok (.ireturn, 1) := by decide +kernel
theorem d_ContentStoreModel_find_0 : decode prog_7_method_16_code 0 = .ok (.iconst (-1), 1) := by decide +kernel
theorem d_ContentStoreModel_find_1 : decode prog_7_method_16_code 1 = .ok (.istore_n 3, 1) := by decide +kernel
theorem d_ContentStoreModel_find_2 : decode prog_7_method_16_code 2 = .ok (.iconst 0, 1) := by decide +kernel
theorem d_ContentStoreModel_find_3 : decode prog_7_method_16_code 3 = .ok (.istore 4, 2) := by decide +kernel
theorem d_ContentStoreModel_find_5 : decode prog_7_method_16_code 5 = .ok (.iload 4, 2) := by decide +kernel
theorem d_ContentStoreModel_find_7 : decode prog_7_method_16_code 7 = .ok (.sipush 400, 3) := by decide +kernel
theorem d_ContentStoreModel_find_10 : decode prog_7_method_16_code 10 = .ok (.if_icmp .ge 43, 3) := by decide +kernel
theorem d_ContentStoreModel_find_13 : decode prog_7_method_16_code 13 = .ok (.aload_n 0, 1) := by decide +kernel
theorem d_ContentStoreModel_find_14 : decode prog_7_method_16_code 14 = .ok (.iload 4, 2) := by decide +kernel
theorem d_ContentStoreModel_find_16 : decode prog_7_method_16_code 16 = .ok (.iload_n 1, 1) := by decide +kernel
theorem d_ContentStoreModel_find_17 : decode prog_7_method_16_code 17 = .ok (.iload_n 2, 1) := by decide +kernel
theorem d_ContentStoreModel_find_18 : decode prog_7_method_16_code 18 = .ok (.invokevirtual 122, 3) := by decide +kernel
theorem d_ContentStoreModel_find_21 : decode prog_7_method_16_code 21 = .ok (.ifCond .eq 26, 3) := by decide +kernel
theorem d_ContentStoreModel_find_24 : decode prog_7_method_16_code 24 = .ok (.iload_n 3, 1) := by decide +kernel
theorem d_ContentStoreModel_find_25 : decode prog_7_method_16_code 25 = .ok (.ifCond .lt 19, 3) := by decide +kernel
theorem d_ContentStoreModel_find_28 : decode prog_7_method_16_code 28 = .ok (.aload_n 0, 1) := by decide +kernel
theorem d_ContentStoreModel_find_29 : decode prog_7_method_16_code 29 = .ok (.getfield 30, 3) := by decide +kernel
theorem d_ContentStoreModel_find_32 : decode prog_7_method_16_code 32 = .ok (.iload 4, 2) := by decide +kernel
theorem d_ContentStoreModel_find_34 : decode prog_7_method_16_code 34 = .ok (.iaload, 1) := by decide +kernel
theorem d_ContentStoreModel_find_35 : decode prog_7_method_16_code 35 = .ok (.aload_n 0, 1) := by decide +kernel
theorem d_ContentStoreModel_find_36 : decode prog_7_method_16_code 36 = .ok (.getfield 30, 3) := by decide +kernel
theorem d_ContentStoreModel_find_39 : decode prog_7_method_16_code 39 = .ok (.iload_n 3, 1) := by decide +kernel
theorem d_ContentStoreModel_find_40 : decode prog_7_method_16_code 40 = .ok (.iaload, 1) := by decide +kernel
theorem d_ContentStoreModel_find_41 : decode prog_7_method_16_code 41 = .ok (.if_icmp .ge 6, 3) := by decide +kernel
theorem d_ContentStoreModel_find_44 : decode prog_7_method_16_code 44 = .ok (.iload 4, 2) := by decide +kernel
theorem d_ContentStoreModel_find_46 : decode prog_7_method_16_code 46 = .ok (.istore_n 3, 1) := by decide +kernel
theorem d_ContentStoreModel_find_47 : decode prog_7_method_16_code 47 = .ok (.iinc 4 1, 3) := by decide +kernel
theorem d_ContentStoreModel_find_50 : decode prog_7_method_16_code 50 = .ok (.goto (-45), 3) := by decide +kernel
theorem d_ContentStoreModel_find_53 : decode prog_7_method_16_code 53 = .ok (.iload_n 3, 1) := by decide +kernel
theorem d_ContentStoreModel_find_54 : decode prog_7_method_16_code 54 = .ok (.ireturn, 1) := by decide +kernel
theorem d_ContentStoreModel_areAlike_0 : decode prog_7_method_17_code 0 = .ok (.iload_n 3, 1) := by decide +kernel
theorem d_ContentStoreModel_areAlike_1 : decode prog_7_method_17_code 1 = .ok (.iload_n 1, 1) := by decide +kernel
theorem d_ContentStoreModel_areAlike_2 : decode prog_7_method_17_code 2 = .ok (.invokestatic 119, 3) := by decide +kernel
theorem d_ContentStoreModel_areAlike_5 : decode prog_7_method_17_code 5 = .ok (.iload_n 3, 1) := by decide +kernel
theorem d_ContentStoreModel_areAlike_6 : decode prog_7_method_17_code 6 = .ok (.iload_n 2, 1) := by decide +kernel
theorem d_ContentStoreModel_areAlike_7 : decode prog_7_method_17_code 7 = .ok (.invokestatic 119, 3) := by decide +kernel
theorem d_ContentStoreModel_areAlike_10 : decode prog_7_method_17_code 10 = .ok (.if_icmp .ne 7, 3) := by decide +kernel
theorem d_ContentStoreModel_areAlike_13 : decode prog_7_method_17_code 13 = .ok (.iconst 1, 1) := by decide +kernel
theorem d_ContentStoreModel_areAlike_14 : decode prog_7_method_17_code 14 = .ok (.goto 4, 3) := by decide +kernel
theorem d_ContentStoreModel_areAlike_17 : decode prog_7_method_17_code 17 = .ok (.iconst 0, 1) := by decide +kernel
theorem d_ContentStoreModel_areAlike_18 : decode prog_7_method_17_code 18 = .ok (.istore 4, 2) := by decide +kernel
theorem d_ContentStoreModel_areAlike_20 : decode prog_7_method_17_code 20 = .ok (.iconst 0, 1) := by decide +kernel
theorem d_ContentStoreModel_areAlike_21 : decode prog_7_method_17_code 21 = .ok (.istore 5, 2) := by decide +kernel
theorem d_ContentStoreModel_areAlike_23 : decode prog_7_method_17_code 23 = .ok (.iload 5, 2) := by decide +kernel
theorem d_ContentStoreModel_areAlike_25 : decode prog_7_method_17_code 25 = .ok (.iload_n 3, 1) := by decide +kernel
theorem d_ContentStoreModel_areAlike_26 : decode prog_7_method_17_code 26 = .ok (.iload_n 1, 1) := by decide +kernel
theorem d_ContentStoreModel_areAlike_27 : decode prog_7_method_17_code 27 = .ok (.invokestatic 119, 3) := by decide +kernel
theorem d_ContentStoreModel_areAlike_30 : decode prog_7_method_17_code 30 = .ok (.if_icmp .ge 48, 3) := by decide +kernel
theorem d_ContentStoreModel_areAlike_33 : decode prog_7_method_17_code 33 = .ok (.iload 4, 2) := by decide +kernel
theorem d_ContentStoreModel_areAlike_35 : decode prog_7_method_17_code 35 = .ok (.ifCond .eq 43, 3) := by decide +kernel
theorem d_ContentStoreModel_areAlike_38 : decode prog_7_method_17_code 38 = .ok (.aload_n 0, 1) := by decide +kernel
theorem d_ContentStoreModel_areAlike_39 : decode prog_7_method_17_code 39 = .ok (.getfield 63, 3) := by decide +kernel
theorem d_ContentStoreModel_areAlike_42 : decode prog_7_method_17_code 42 = .ok (.bipush 16, 2) := by decide +kernel
theorem d_ContentStoreModel_areAlike_44 : decode prog_7_method_17_code 44 = .ok (.iload_n 1, 1) := by decide +kernel
theorem d_ContentStoreModel_areAlike_45 : decode prog_7_method_17_code 45 = .ok (.imul, 1) := by decide +kernel
theorem d_ContentStoreModel_areAlike_46 : decode prog_7_method_17_code 46 = .ok (.iload 5, 2) := by decide +kernel
theorem d_ContentStoreModel_areAlike_48 : decode prog_7_method_17_code 48 = .ok (.iadd, 1) := by decide +kernel
theorem d_ContentStoreModel_areAlike_49 : decode prog_7_method_17_code 49 = .ok (.iaload, 1) := by decide +kernel
theorem d_ContentStoreModel_areAlike_50 : decode prog_7_method_17_code 50 = .ok (.aload_n 0, 1) := by decide +kernel
theorem d_ContentStoreModel_areAlike_51 : decode prog_7_method_17_code 51 = .ok (.getfield 63, 3) := by decide +kernel
theorem d_ContentStoreModel_areAlike_54 : decode prog_7_method_17_code 54 = .ok (.bipush 16, 2) := by decide +kernel
theorem d_ContentStoreModel_areAlike_56 : decode prog_7_method_17_code 56 = .ok (.iload_n 2, 1) := by decide +kernel
theorem d_ContentStoreModel_areAlike_57 : decode prog_7_method_17_code 57 = .ok (.imul, 1) := by decide +kernel
theorem d_ContentStoreModel_areAlike_58 : decode prog_7_method_17_code 58 = .ok (.iload 5, 2) := by decide +kernel
theorem d_ContentStoreModel_areAlike_60 : decode prog_7_method_17_code 60 = .ok (.iadd, 1) := by decide +kernel
theorem d_ContentStoreModel_areAlike_61 : decode prog_7_method_17_code 61 = .ok (.iaload, 1) := by decide +kernel
theorem d_ContentStoreModel_areAlike_62 : decode prog_7_method_17_code 62 = .ok (.if_icmp .ne 7, 3) := by decide +kernel
theorem d_ContentStoreModel_areAlike_65 : decode prog_7_method_17_code 65 = .ok (.iconst 1, 1) := by decide +kernel
theorem d_ContentStoreModel_areAlike_66 : decode prog_7_method_17_code 66 = .ok (.goto 4, 3) := by decide +kernel
theorem d_ContentStoreModel_areAlike_69 : decode prog_7_method_17_code 69 = .ok (.iconst 0, 1) := by decide +kernel
theorem d_ContentStoreModel_areAlike_70 : decode prog_7_method_17_code 70 = .ok (.istore 4, 2) := by decide +kernel
theorem d_ContentStoreModel_areAlike_72 : decode prog_7_method_17_code 72 = .ok (.iinc 5 1, 3) := by decide +kernel
theorem d_ContentStoreModel_areAlike_75 : decode prog_7_method_17_code 75 = .ok (.goto (-52), 3) := by decide +kernel
theorem d_ContentStoreModel_areAlike_78 : decode prog_7_method_17_code 78 = .ok (.iload 4, 2) := by decide +kernel
theorem d_ContentStoreModel_areAlike_80 : decode prog_7_method_17_code 80 = .ok (.ireturn, 1) := by decide +kernel
theorem d_ContentStoreModel_sumOfWork_0 : decode prog_7_method_10_code 0 = .ok (.iconst 0, 1) := by decide +kernel
theorem d_ContentStoreModel_sumOfWork_1 : decode prog_7_method_10_code 1 = .ok (.istore_n 2, 1) := by decide +kernel
theorem d_ContentStoreModel_sumOfWork_2 : decode prog_7_method_10_code 2 = .ok (.iconst 0, 1) := by decide +kernel
theorem d_ContentStoreModel_sumOfWork_3 : decode prog_7_method_10_code 3 = .ok (.istore_n 3, 1) := by decide +kernel
theorem d_ContentStoreModel_sumOfWork_4 : decode prog_7_method_10_code 4 = .ok (.iload_n 3, 1) := by decide +kernel
theorem d_ContentStoreModel_sumOfWork_5 : decode prog_7_method_10_code 5 = .ok (.iload_n 1, 1) := by decide +kernel
theorem d_ContentStoreModel_sumOfWork_6 : decode prog_7_method_10_code 6 = .ok (.if_icmp .ge 20, 3) := by decide +kernel
theorem d_ContentStoreModel_sumOfWork_9 : decode prog_7_method_10_code 9 = .ok (.iload_n 2, 1) := by decide +kernel
theorem d_ContentStoreModel_sumOfWork_10 : decode prog_7_method_10_code 10 = .ok (.aload_n 0, 1) := by decide +kernel
theorem d_ContentStoreModel_sumOfWork_11 : decode prog_7_method_10_code 11 = .ok (.getfield 63, 3) := by decide +kernel
theorem d_ContentStoreModel_sumOfWork_14 : decode prog_7_method_10_code 14 = .ok (.iload_n 3, 1) := by decide +kernel
theorem d_ContentStoreModel_sumOfWork_15 : decode prog_7_method_10_code 15 = .ok (.iaload, 1) := by decide +kernel
theorem d_ContentStoreModel_sumOfWork_16 : decode prog_7_method_10_code 16 = .ok (.invokestatic 114, 3) := by decide +kernel
theorem d_ContentStoreModel_sumOfWork_19 : decode prog_7_method_10_code 19 = .ok (.istore_n 2, 1) := by decide +kernel
theorem d_ContentStoreModel_sumOfWork_20 : decode prog_7_method_10_code 20 = .ok (.iinc 3 1, 3) := by decide +kernel
theorem d_ContentStoreModel_sumOfWork_23 : decode prog_7_method_10_code 23 = .ok (.goto (-19), 3) := by decide +kernel
theorem d_ContentStoreModel_sumOfWork_26 : decode prog_7_method_10_code 26 = .ok (.iload_n 2, 1) := by decide +kernel
theorem d_ContentStoreModel_sumOfWork_27 : decode prog_7_method_10_code 27 = .ok (.ireturn, 1) := by decide +kernel
theorem d_ContentStoreModel_digestOfWork_0 : decode prog_7_method_11_code 0 = .ok (.iload_n 1, 1) := by decide +kernel
theorem d_ContentStoreModel_digestOfWork_1 : decode prog_7_method_11_code 1 = .ok (.i2l, 1) := by decide +kernel
theorem d_ContentStoreModel_digestOfWork_2 : decode prog_7_method_11_code 2 = .ok (.lstore_n 2, 1) := by decide +kernel
theorem d_ContentStoreModel_digestOfWork_3 : decode prog_7_method_11_code 3 = .ok (.iconst 0, 1) := by decide +kernel
theorem d_ContentStoreModel_digestOfWork_4 : decode prog_7_method_11_code 4 = .ok (.istore 4, 2) := by decide +kernel
theorem d_ContentStoreModel_digestOfWork_6 : decode prog_7_method_11_code 6 = .ok (.iload 4, 2) := by decide +kernel
theorem d_ContentStoreModel_digestOfWork_8 : decode prog_7_method_11_code 8 = .ok (.iload_n 1, 1) := by decide +kernel
theorem d_ContentStoreModel_digestOfWork_9 : decode prog_7_method_11_code 9 = .ok (.if_icmp .ge 31, 3) := by decide +kernel
theorem d_ContentStoreModel_digestOfWork_12 : decode prog_7_method_11_code 12 = .ok (.lload_n 2, 1) := by decide +kernel
theorem d_ContentStoreModel_digestOfWork_13 : decode prog_7_method_11_code 13 = .ok (.aload_n 0, 1) := by decide +kernel
theorem d_ContentStoreModel_digestOfWork_14 : decode prog_7_method_11_code 14 = .ok (.getfield 63, 3) := by decide +kernel
theorem d_ContentStoreModel_digestOfWork_17 : decode prog_7_method_11_code 17 = .ok (.iload 4, 2) := by decide +kernel
theorem d_ContentStoreModel_digestOfWork_19 : decode prog_7_method_11_code 19 = .ok (.iaload, 1) := by decide +kernel
theorem d_ContentStoreModel_digestOfWork_20 : decode prog_7_method_11_code 20 = .ok (.i2l, 1) := by decide +kernel
theorem d_ContentStoreModel_digestOfWork_21 : decode prog_7_method_11_code 21 = .ok (.lxor, 1) := by decide +kernel
theorem d_ContentStoreModel_digestOfWork_22 : decode prog_7_method_11_code 22 = .ok (.ldc2_w 117, 3) := by decide +kernel
theorem d_ContentStoreModel_digestOfWork_25 : decode prog_7_method_11_code 25 = .ok (.lmul, 1) := by decide +kernel
theorem d_ContentStoreModel_digestOfWork_26 : decode prog_7_method_11_code 26 = .ok (.lstore_n 2, 1) := by decide +kernel
theorem d_ContentStoreModel_digestOfWork_27 : decode prog_7_method_11_code 27 = .ok (.lload_n 2, 1) := by decide +kernel
theorem d_ContentStoreModel_digestOfWork_28 : decode prog_7_method_11_code 28 = .ok (.lload_n 2, 1) := by decide +kernel
theorem d_ContentStoreModel_digestOfWork_29 : decode prog_7_method_11_code 29 = .ok (.bipush 29, 2) := by decide +kernel
theorem d_ContentStoreModel_digestOfWork_31 : decode prog_7_method_11_code 31 = .ok (.lushr, 1) := by decide +kernel
theorem d_ContentStoreModel_digestOfWork_32 : decode prog_7_method_11_code 32 = .ok (.lxor, 1) := by decide +kernel
theorem d_ContentStoreModel_digestOfWork_33 : decode prog_7_method_11_code 33 = .ok (.lstore_n 2, 1) := by decide +kernel
theorem d_ContentStoreModel_digestOfWork_34 : decode prog_7_method_11_code 34 = .ok (.iinc 4 1, 3) := by decide +kernel
theorem d_ContentStoreModel_digestOfWork_37 : decode prog_7_method_11_code 37 = .ok (.goto (-31), 3) := by decide +kernel
theorem d_ContentStoreModel_digestOfWork_40 : decode prog_7_method_11_code 40 = .ok (.lload_n 2, 1) := by decide +kernel
theorem d_ContentStoreModel_digestOfWork_41 : decode prog_7_method_11_code 41 = .ok (.lreturn, 1) := by decide +kernel
theorem d_ContentStoreModel_take_0 : decode prog_7_method_22_code 0 = .ok (.aload_n 0, 1) := by decide +kernel
theorem d_ContentStoreModel_take_1 : decode prog_7_method_22_code 1 = .ok (.getfield 39, 3) := by decide +kernel
theorem d_ContentStoreModel_take_4 : decode prog_7_method_22_code 4 = .ok (.iload_n 1, 1) := by decide +kernel
theorem d_ContentStoreModel_take_5 : decode prog_7_method_22_code 5 = .ok (.iaload, 1) := by decide +kernel
theorem d_ContentStoreModel_take_6 : decode prog_7_method_22_code 6 = .ok (.istore_n 3, 1) := by decide +kernel
theorem d_ContentStoreModel_take_7 : decode prog_7_method_22_code 7 = .ok (.iconst 0, 1) := by decide +kernel
theorem d_ContentStoreModel_take_8 : decode prog_7_method_22_code 8 = .ok (.istore 4, 2) := by decide +kernel
theorem d_ContentStoreModel_take_10 : decode prog_7_method_22_code 10 = .ok (.iload 4, 2) := by decide +kernel
theorem d_ContentStoreModel_take_12 : decode prog_7_method_22_code 12 = .ok (.iload_n 3, 1) := by decide +kernel
theorem d_ContentStoreModel_take_13 : decode prog_7_method_22_code 13 = .ok (.invokestatic 125, 3) := by decide +kernel
theorem d_ContentStoreModel_take_16 : decode prog_7_method_22_code 16 = .ok (.if_icmp .ge 65, 3) := by decide +kernel
theorem d_ContentStoreModel_take_19 : decode prog_7_method_22_code 19 = .ok (.iload_n 2, 1) := by decide +kernel
theorem d_ContentStoreModel_take_20 : decode prog_7_method_22_code 20 = .ok (.ifCond .eq 17, 3) := by decide +kernel
theorem d_ContentStoreModel_take_23 : decode prog_7_method_22_code 23 = .ok (.aload_n 0, 1) := by decide +kernel
theorem d_ContentStoreModel_take_24 : decode prog_7_method_22_code 24 = .ok (.iload_n 1, 1) := by decide +kernel
theorem d_ContentStoreModel_take_25 : decode prog_7_method_22_code 25 = .ok (.iload 4, 2) := by decide +kernel
theorem d_ContentStoreModel_take_27 : decode prog_7_method_22_code 27 = .ok (.iload_n 3, 1) := by decide +kernel
theorem d_ContentStoreModel_take_28 : decode prog_7_method_22_code 28 = .ok (.invokevirtual 128, 3) := by decide +kernel
theorem d_ContentStoreModel_take_31 : decode prog_7_method_22_code 31 = .ok (.ifCond .eq 6, 3) := by decide +kernel
theorem d_ContentStoreModel_take_34 : decode prog_7_method_22_code 34 = .ok (.goto 41, 3) := by decide +kernel
theorem d_ContentStoreModel_take_37 : decode prog_7_method_22_code 37 = .ok (.aload_n 0, 1) := by decide +kernel
theorem d_ContentStoreModel_take_38 : decode prog_7_method_22_code 38 = .ok (.iload 4, 2) := by decide +kernel
theorem d_ContentStoreModel_take_40 : decode prog_7_method_22_code 40 = .ok (.iload_n 3, 1) := by decide +kernel
theorem d_ContentStoreModel_take_41 : decode prog_7_method_22_code 41 = .ok (.invokevirtual 131, 3) := by decide +kernel
theorem d_ContentStoreModel_take_44 : decode prog_7_method_22_code 44 = .ok (.istore 5, 2) := by decide +kernel
theorem d_ContentStoreModel_take_46 : decode prog_7_method_22_code 46 = .ok (.aload_n 0, 1) := by decide +kernel
theorem d_ContentStoreModel_take_47 : decode prog_7_method_22_code 47 = .ok (.getfield 42, 3) := by decide +kernel
theorem d_ContentStoreModel_take_50 : decode prog_7_method_22_code 50 = .ok (.bipush 6, 2) := by decide +kernel
theorem d_ContentStoreModel_take_52 : decode prog_7_method_22_code 52 = .ok (.iload_n 1, 1) := by decide +kernel
theorem d_ContentStoreModel_take_53 : decode prog_7_method_22_code 53 = .ok (.imul, 1) := by decide +kernel
theorem d_ContentStoreModel_take_54 : decode prog_7_method_22_code 54 = .ok (.iload 4, 2) := by decide +kernel
theorem d_ContentStoreModel_take_56 : decode prog_7_method_22_code 56 = .ok (.iadd, 1) := by decide +kernel
theorem d_ContentStoreModel_take_57 : decode prog_7_method_22_code 57 = .ok (.iload 5, 2) := by decide +kernel
theorem d_ContentStoreModel_take_59 : decode prog_7_method_22_code 59 = .ok (.ifCond .ge 13, 3) := by decide +kernel
theorem d_ContentStoreModel_take_62 : decode prog_7_method_22_code 62 = .ok (.aload_n 0, 1) := by decide +kernel
theorem d_ContentStoreModel_take_63 : decode prog_7_method_22_code 63 = .ok (.iload 4, 2) := by decide +kernel
theorem d_ContentStoreModel_take_65 : decode prog_7_method_22_code 65 = .ok (.iload_n 3, 1) := by decide +kernel
theorem d_ContentStoreModel_take_66 : decode prog_7_method_22_code 66 = .ok (.invokevirtual 140, 3) := by decide +kernel
theorem d_ContentStoreModel_take_69 : decode prog_7_method_22_code 69 = .ok (.goto 5, 3) := by decide +kernel
theorem d_ContentStoreModel_take_72 : decode prog_7_method_22_code 72 = .ok (.iload 5, 2) := by decide +kernel
theorem d_ContentStoreModel_take_74 : decode prog_7_method_22_code 74 = .ok (.iastore, 1) := by decide +kernel
theorem d_ContentStoreModel_take_75 : decode prog_7_method_22_code 75 = .ok (.iinc 4 1, 3) := by decide +kernel
theorem d_ContentStoreModel_take_78 : decode prog_7_method_22_code 78 = .ok (.goto (-68), 3) := by decide +kernel
theorem d_ContentStoreModel_take_81 : decode prog_7_method_22_code 81 = .ok (.return_, 1) := by decide +kernel
theorem d_ContentStoreModel_made_0 : decode prog_7_method_21_code 0 = .ok (.iconst 0, 1) := by decide +kernel
theorem d_ContentStoreModel_made_1 : decode prog_7_method_21_code 1 = .ok (.istore_n 3, 1) := by decide +kernel
theorem d_ContentStoreModel_made_2 : decode prog_7_method_21_code 2 = .ok (.aload_n 0, 1) := by decide +kernel
theorem d_ContentStoreModel_made_3 : decode prog_7_method_21_code 3 = .ok (.getfield 27, 3) := by decide +kernel
theorem d_ContentStoreModel_made_6 : decode prog_7_method_21_code 6 = .ok (.iload_n 3, 1) := by decide +kernel
theorem d_ContentStoreModel_made_7 : decode prog_7_method_21_code 7 = .ok (.iaload, 1) := by decide +kernel
theorem d_ContentStoreModel_made_8 : decode prog_7_method_21_code 8 = .ok (.ifCond .le 9, 3) := by decide +kernel
theorem d_ContentStoreModel_made_11 : decode prog_7_method_21_code 11 = .ok (.iinc 3 1, 3) := by decide +kernel
theorem d_ContentStoreModel_made_14 : decode prog_7_method_21_code 14 = .ok (.goto (-12), 3) := by decide +kernel
theorem d_ContentStoreModel_made_17 : decode prog_7_method_21_code 17 = .ok (.aload_n 0, 1) := by decide +kernel
theorem d_ContentStoreModel_made_18 : decode prog_7_method_21_code 18 = .ok (.getfield 27, 3) := by decide +kernel
theorem d_ContentStoreModel_made_21 : decode prog_7_method_21_code 21 = .ok (.iload_n 3, 1) := by decide +kernel
theorem d_ContentStoreModel_made_22 : decode prog_7_method_21_code 22 = .ok (.iload_n 2, 1) := by decide +kernel
theorem d_ContentStoreModel_made_23 : decode prog_7_method_21_code 23 = .ok (.iload_n 1, 1) := by decide +kernel
theorem d_ContentStoreModel_made_24 : decode prog_7_method_21_code 24 = .ok (.invokestatic 119, 3) := by decide +kernel
theorem d_ContentStoreModel_made_27 : decode prog_7_method_21_code 27 = .ok (.iastore, 1) := by decide +kernel
theorem d_ContentStoreModel_made_28 : decode prog_7_method_21_code 28 = .ok (.aload_n 0, 1) := by decide +kernel
theorem d_ContentStoreModel_made_29 : decode prog_7_method_21_code 29 = .ok (.getfield 30, 3) := by decide +kernel
theorem d_ContentStoreModel_made_32 : decode prog_7_method_21_code 32 = .ok (.iload_n 3, 1) := by decide +kernel
theorem d_ContentStoreModel_made_33 : decode prog_7_method_21_code 33 = .ok (.aload_n 0, 1) := by decide +kernel
theorem d_ContentStoreModel_made_34 : decode prog_7_method_21_code 34 = .ok (.getfield 137, 3) := by decide +kernel
theorem d_ContentStoreModel_made_37 : decode prog_7_method_21_code 37 = .ok (.iastore, 1) := by decide +kernel
theorem d_ContentStoreModel_made_38 : decode prog_7_method_21_code 38 = .ok (.aload_n 0, 1) := by decide +kernel
theorem d_ContentStoreModel_made_39 : decode prog_7_method_21_code 39 = .ok (.dup, 1) := by decide +kernel
theorem d_ContentStoreModel_made_40 : decode prog_7_method_21_code 40 = .ok (.getfield 137, 3) := by decide +kernel
theorem d_ContentStoreModel_made_43 : decode prog_7_method_21_code 43 = .ok (.iconst 1, 1) := by decide +kernel
theorem d_ContentStoreModel_made_44 : decode prog_7_method_21_code 44 = .ok (.iadd, 1) := by decide +kernel
theorem d_ContentStoreModel_made_45 : decode prog_7_method_21_code 45 = .ok (.putfield 137, 3) := by decide +kernel
theorem d_ContentStoreModel_made_48 : decode prog_7_method_21_code 48 = .ok (.iconst 0, 1) := by decide +kernel
theorem d_ContentStoreModel_made_49 : decode prog_7_method_21_code 49 = .ok (.istore 4, 2) := by decide +kernel
theorem d_ContentStoreModel_made_51 : decode prog_7_method_21_code 51 = .ok (.iload 4, 2) := by decide +kernel
theorem d_ContentStoreModel_made_53 : decode prog_7_method_21_code 53 = .ok (.iload_n 2, 1) := by decide +kernel
theorem d_ContentStoreModel_made_54 : decode prog_7_method_21_code 54 = .ok (.iload_n 1, 1) := by decide +kernel
theorem d_ContentStoreModel_made_55 : decode prog_7_method_21_code 55 = .ok (.invokestatic 119, 3) := by decide +kernel
theorem d_ContentStoreModel_made_58 : decode prog_7_method_21_code 58 = .ok (.if_icmp .ge 33, 3) := by decide +kernel
theorem d_ContentStoreModel_made_61 : decode prog_7_method_21_code 61 = .ok (.aload_n 0, 1) := by decide +kernel
theorem d_ContentStoreModel_made_62 : decode prog_7_method_21_code 62 = .ok (.getfield 33, 3) := by decide +kernel
theorem d_ContentStoreModel_made_65 : decode prog_7_method_21_code 65 = .ok (.bipush 16, 2) := by decide +kernel
theorem d_ContentStoreModel_made_67 : decode prog_7_method_21_code 67 = .ok (.iload_n 3, 1) := by decide +kernel
theorem d_ContentStoreModel_made_68 : decode prog_7_method_21_code 68 = .ok (.imul, 1) := by decide +kernel
theorem d_ContentStoreModel_made_69 : decode prog_7_method_21_code 69 = .ok (.iload 4, 2) := by decide +kernel
theorem d_ContentStoreModel_made_71 : decode prog_7_method_21_code 71 = .ok (.iadd, 1) := by decide +kernel
theorem d_ContentStoreModel_made_72 : decode prog_7_method_21_code 72 = .ok (.aload_n 0, 1) := by decide +kernel
theorem d_ContentStoreModel_made_73 : decode prog_7_method_21_code 73 = .ok (.getfield 63, 3) := by decide +kernel
theorem d_ContentStoreModel_made_76 : decode prog_7_method_21_code 76 = .ok (.bipush 16, 2) := by decide +kernel
theorem d_ContentStoreModel_made_78 : decode prog_7_method_21_code 78 = .ok (.iload_n 1, 1) := by decide +kernel
theorem d_ContentStoreModel_made_79 : decode prog_7_method_21_code 79 = .ok (.imul, 1) := by decide +kernel
theorem d_ContentStoreModel_made_80 : decode prog_7_method_21_code 80 = .ok (.iload 4, 2) := by decide +kernel
theorem d_ContentStoreModel_made_82 : decode prog_7_method_21_code 82 = .ok (.iadd, 1) := by decide +kernel
theorem d_ContentStoreModel_made_83 : decode prog_7_method_21_code 83 = .ok (.iaload, 1) := by decide +kernel
theorem d_ContentStoreModel_made_84 : decode prog_7_method_21_code 84 = .ok (.iastore, 1) := by decide +kernel
theorem d_ContentStoreModel_made_85 : decode prog_7_method_21_code 85 = .ok (.iinc 4 1, 3) := by decide +kernel
theorem d_ContentStoreModel_made_88 : decode prog_7_method_21_code 88 = .ok (.goto (-37), 3) := by decide +kernel
theorem d_ContentStoreModel_made_91 : decode prog_7_method_21_code 91 = .ok (.iload_n 3, 1) := by decide +kernel
theorem d_ContentStoreModel_made_92 : decode prog_7_method_21_code 92 = .ok (.ireturn, 1) := by decide +kernel
theorem d_ContentStoreModel_there_0 : decode prog_7_method_27_code 0 = .ok (.aload_n 0, 1) := by decide +kernel
theorem d_ContentStoreModel_there_1 : decode prog_7_method_27_code 1 = .ok (.iconst 0, 1) := by decide +kernel
theorem d_ContentStoreModel_there_2 : decode prog_7_method_27_code 2 = .ok (.putfield 70, 3) := by decide +kernel
theorem d_ContentStoreModel_there_5 : decode prog_7_method_27_code 5 = .ok (.aload_n 0, 1) := by decide +kernel
theorem d_ContentStoreModel_there_6 : decode prog_7_method_27_code 6 = .ok (.iload_n 1, 1) := by decide +kernel
theorem d_ContentStoreModel_there_7 : decode prog_7_method_27_code 7 = .ok (.invokevirtual 149, 3) := by decide +kernel
theorem d_ContentStoreModel_there_10 : decode prog_7_method_27_code 10 = .ok (.ireturn, 1) := by decide +kernel
theorem d_ContentStoreModel_isBlob_0 : decode prog_7_method_4_code 0 = .ok (.iload_n 1, 1) := by decide +kernel
theorem d_ContentStoreModel_isBlob_1 : decode prog_7_method_4_code 1 = .ok (.iconst 0, 1) := by decide +kernel
theorem d_ContentStoreModel_isBlob_2 : decode prog_7_method_4_code 2 = .ok (.aload_n 0, 1) := by decide +kernel
theorem d_ContentStoreModel_isBlob_3 : decode prog_7_method_4_code 3 = .ok (.getfield 73, 3) := by decide +kernel
theorem d_ContentStoreModel_isBlob_6 : decode prog_7_method_4_code 6 = .ok (.iconst 1, 1) := by decide +kernel
theorem d_ContentStoreModel_isBlob_7 : decode prog_7_method_4_code 7 = .ok (.isub, 1) := by decide +kernel
theorem d_ContentStoreModel_isBlob_8 : decode prog_7_method_4_code 8 = .ok (.invokestatic 76, 3) := by decide +kernel
theorem d_ContentStoreModel_isBlob_11 : decode prog_7_method_4_code 11 = .ok (.ifCond .eq 16, 3) := by decide +kernel
theorem d_ContentStoreModel_isBlob_14 : decode prog_7_method_4_code 14 = .ok (.aload_n 0, 1) := by decide +kernel
theorem d_ContentStoreModel_isBlob_15 : decode prog_7_method_4_code 15 = .ok (.getfield 36, 3) := by decide +kernel
theorem d_ContentStoreModel_isBlob_18 : decode prog_7_method_4_code 18 = .ok (.iload_n 1, 1) := by decide +kernel
theorem d_ContentStoreModel_isBlob_19 : decode prog_7_method_4_code 19 = .ok (.baload, 1) := by decide +kernel
theorem d_ContentStoreModel_isBlob_20 : decode prog_7_method_4_code 20 = .ok (.ifCond .eq 7, 3) := by decide +kernel
theorem d_ContentStoreModel_isBlob_23 : decode prog_7_method_4_code 23 = .ok (.iconst 1, 1) := by decide +kernel
theorem d_ContentStoreModel_isBlob_24 : decode prog_7_method_4_code 24 = .ok (.goto 4, 3) := by decide +kernel
theorem d_ContentStoreModel_isBlob_27 : decode prog_7_method_4_code 27 = .ok (.iconst 0, 1) := by decide +kernel
theorem d_ContentStoreModel_isBlob_28 : decode prog_7_method_4_code 28 = .ok (.ireturn, 1) := by decide +kernel
theorem d_ContentStoreModel_digest_0 : decode prog_7_method_28_code 0 = .ok (.aload_n 0, 1) := by decide +kernel
theorem d_ContentStoreModel_digest_1 : decode prog_7_method_28_code 1 = .ok (.iconst 0, 1) := by decide +kernel
theorem d_ContentStoreModel_digest_2 : decode prog_7_method_28_code 2 = .ok (.putfield 70, 3) := by decide +kernel
theorem d_ContentStoreModel_digest_5 : decode prog_7_method_28_code 5 = .ok (.aload_n 0, 1) := by decide +kernel
theorem d_ContentStoreModel_digest_6 : decode prog_7_method_28_code 6 = .ok (.iload_n 1, 1) := by decide +kernel
theorem d_ContentStoreModel_digest_7 : decode prog_7_method_28_code 7 = .ok (.invokevirtual 149, 3) := by decide +kernel
theorem d_ContentStoreModel_digest_10 : decode prog_7_method_28_code 10 = .ok (.ifCond .eq 12, 3) := by decide +kernel
theorem d_ContentStoreModel_digest_13 : decode prog_7_method_28_code 13 = .ok (.aload_n 0, 1) := by decide +kernel
theorem d_ContentStoreModel_digest_14 : decode prog_7_method_28_code 14 = .ok (.getfield 48, 3) := by decide +kernel
theorem d_ContentStoreModel_digest_17 : decode prog_7_method_28_code 17 = .ok (.iload_n 1, 1) := by decide +kernel
theorem d_ContentStoreModel_digest_18 : decode prog_7_method_28_code 18 = .ok (.laload, 1) := by decide +kernel
theorem d_ContentStoreModel_digest_19 : decode prog_7_method_28_code 19 = .ok (.goto 4, 3) := by decide +kernel
theorem d_ContentStoreModel_digest_22 : decode prog_7_method_28_code 22 = .ok (.lconst 0, 1) := by decide +kernel
theorem d_ContentStoreModel_digest_23 : decode prog_7_method_28_code 23 = .ok (.lreturn, 1) := by decide +kernel
theorem d_ContentStoreModel_size_0 : decode prog_7_method_29_code 0 = .ok (.aload_n 0, 1) := by decide +kernel
theorem d_ContentStoreModel_size_1 : decode prog_7_method_29_code 1 = .ok (.iconst 0, 1) := by decide +kernel
theorem d_ContentStoreModel_size_2 : decode prog_7_method_29_code 2 = .ok (.putfield 70, 3) := by decide +kernel
theorem d_ContentStoreModel_size_5 : decode prog_7_method_29_code 5 = .ok (.aload_n 0, 1) := by decide +kernel
theorem d_ContentStoreModel_size_6 : decode prog_7_method_29_code 6 = .ok (.iload_n 1, 1) := by decide +kernel
theorem d_ContentStoreModel_size_7 : decode prog_7_method_29_code 7 = .ok (.invokevirtual 149, 3) := by decide +kernel
theorem d_ContentStoreModel_size_10 : decode prog_7_method_29_code 10 = .ok (.ifCond .eq 12, 3) := by decide +kernel
theorem d_ContentStoreModel_size_13 : decode prog_7_method_29_code 13 = .ok (.aload_n 0, 1) := by decide +kernel
theorem d_ContentStoreModel_size_14 : decode prog_7_method_29_code 14 = .ok (.getfield 39, 3) := by decide +kernel
theorem d_ContentStoreModel_size_17 : decode prog_7_method_29_code 17 = .ok (.iload_n 1, 1) := by decide +kernel
theorem d_ContentStoreModel_size_18 : decode prog_7_method_29_code 18 = .ok (.iaload, 1) := by decide +kernel
theorem d_ContentStoreModel_size_19 : decode prog_7_method_29_code 19 = .ok (.goto 4, 3) := by decide +kernel
theorem d_ContentStoreModel_size_22 : decode prog_7_method_29_code 22 = .ok (.iconst (-1), 1) := by decide +kernel
theorem d_ContentStoreModel_size_23 : decode prog_7_method_29_code 23 = .ok (.ireturn, 1) := by decide +kernel
theorem d_ContentStoreModel_get_0 : decode prog_7_method_30_code 0 = .ok (.aload_n 0, 1) := by decide +kernel
theorem d_ContentStoreModel_get_1 : decode prog_7_method_30_code 1 = .ok (.iconst 0, 1) := by decide +kernel
theorem d_ContentStoreModel_get_2 : decode prog_7_method_30_code 2 = .ok (.putfield 70, 3) := by decide +kernel
theorem d_ContentStoreModel_get_5 : decode prog_7_method_30_code 5 = .ok (.aload_n 0, 1) := by decide +kernel
theorem d_ContentStoreModel_get_6 : decode prog_7_method_30_code 6 = .ok (.iload_n 1, 1) := by decide +kernel
theorem d_ContentStoreModel_get_7 : decode prog_7_method_30_code 7 = .ok (.invokevirtual 149, 3) := by decide +kernel
theorem d_ContentStoreModel_get_10 : decode prog_7_method_30_code 10 = .ok (.ifCond .eq 19, 3) := by decide +kernel
theorem d_ContentStoreModel_get_13 : decode prog_7_method_30_code 13 = .ok (.iload_n 2, 1) := by decide +kernel
theorem d_ContentStoreModel_get_14 : decode prog_7_method_30_code 14 = .ok (.iconst 0, 1) := by decide +kernel
theorem d_ContentStoreModel_get_15 : decode prog_7_method_30_code 15 = .ok (.aload_n 0, 1) := by decide +kernel
theorem d_ContentStoreModel_get_16 : decode prog_7_method_30_code 16 = .ok (.getfield 39, 3) := by decide +kernel
theorem d_ContentStoreModel_get_19 : decode prog_7_method_30_code 19 = .ok (.iload_n 1, 1) := by decide +kernel
theorem d_ContentStoreModel_get_20 : decode prog_7_method_30_code 20 = .ok (.iaload, 1) := by decide +kernel
theorem d_ContentStoreModel_get_21 : decode prog_7_method_30_code 21 = .ok (.iconst 1, 1) := by decide +kernel
theorem d_ContentStoreModel_get_22 : decode prog_7_method_30_code 22 = .ok (.isub, 1) := by decide +kernel
theorem d_ContentStoreModel_get_23 : decode prog_7_method_30_code 23 = .ok (.invokestatic 76, 3) := by decide +kernel
theorem d_ContentStoreModel_get_26 : decode prog_7_method_30_code 26 = .ok (.ifCond .ne 5, 3) := by decide +kernel
theorem d_ContentStoreModel_get_29 : decode prog_7_method_30_code 29 = .ok (.iconst (-1), 1) := by decide +kernel
theorem d_ContentStoreModel_get_30 : decode prog_7_method_30_code 30 = .ok (.ireturn, 1) := by decide +kernel
theorem d_ContentStoreModel_get_31 : decode prog_7_method_30_code 31 = .ok (.aload_n 0, 1) := by decide +kernel
theorem d_ContentStoreModel_get_32 : decode prog_7_method_30_code 32 = .ok (.iload_n 1, 1) := by decide +kernel
theorem d_ContentStoreModel_get_33 : decode prog_7_method_30_code 33 = .ok (.invokevirtual 88, 3) := by decide +kernel
theorem d_ContentStoreModel_get_36 : decode prog_7_method_30_code 36 = .ok (.ifCond .eq 12, 3) := by decide +kernel
theorem d_ContentStoreModel_get_39 : decode prog_7_method_30_code 39 = .ok (.aload_n 0, 1) := by decide +kernel
theorem d_ContentStoreModel_get_40 : decode prog_7_method_30_code 40 = .ok (.iload_n 1, 1) := by decide +kernel
theorem d_ContentStoreModel_get_41 : decode prog_7_method_30_code 41 = .ok (.iload_n 2, 1) := by decide +kernel
theorem d_ContentStoreModel_get_42 : decode prog_7_method_30_code 42 = .ok (.invokevirtual 146, 3) := by decide +kernel
theorem d_ContentStoreModel_get_45 : decode prog_7_method_30_code 45 = .ok (.goto 5, 3) := by decide +kernel
theorem d_ContentStoreModel_get_48 : decode prog_7_method_30_code 48 = .ok (.bipush (-2), 2) := by decide +kernel
theorem d_ContentStoreModel_get_50 : decode prog_7_method_30_code 50 = .ok (.ireturn, 1) := by decide +kernel
theorem d_ContentStoreModel_poison_0 : decode prog_7_method_31_code 0 = .ok (.aload_n 0, 1) := by decide +kernel
theorem d_ContentStoreModel_poison_1 : decode prog_7_method_31_code 1 = .ok (.iconst 0, 1) := by decide +kernel
theorem d_ContentStoreModel_poison_2 : decode prog_7_method_31_code 2 = .ok (.putfield 70, 3) := by decide +kernel
theorem d_ContentStoreModel_poison_5 : decode prog_7_method_31_code 5 = .ok (.aload_n 0, 1) := by decide +kernel
theorem d_ContentStoreModel_poison_6 : decode prog_7_method_31_code 6 = .ok (.iload_n 1, 1) := by decide +kernel
theorem d_ContentStoreModel_poison_7 : decode prog_7_method_31_code 7 = .ok (.invokevirtual 149, 3) := by decide +kernel
theorem d_ContentStoreModel_poison_10 : decode prog_7_method_31_code 10 = .ok (.ifCond .eq 27, 3) := by decide +kernel
theorem d_ContentStoreModel_poison_13 : decode prog_7_method_31_code 13 = .ok (.iload_n 2, 1) := by decide +kernel
theorem d_ContentStoreModel_poison_14 : decode prog_7_method_31_code 14 = .ok (.iconst 0, 1) := by decide +kernel
theorem d_ContentStoreModel_poison_15 : decode prog_7_method_31_code 15 = .ok (.aload_n 0, 1) := by decide +kernel
theorem d_ContentStoreModel_poison_16 : decode prog_7_method_31_code 16 = .ok (.getfield 39, 3) := by decide +kernel
theorem d_ContentStoreModel_poison_19 : decode prog_7_method_31_code 19 = .ok (.iload_n 1, 1) := by decide +kernel
theorem d_ContentStoreModel_poison_20 : decode prog_7_method_31_code 20 = .ok (.iaload, 1) := by decide +kernel
theorem d_ContentStoreModel_poison_21 : decode prog_7_method_31_code 21 = .ok (.iconst 1, 1) := by decide +kernel
theorem d_ContentStoreModel_poison_22 : decode prog_7_method_31_code 22 = .ok (.isub, 1) := by decide +kernel
theorem d_ContentStoreModel_poison_23 : decode prog_7_method_31_code 23 = .ok (.invokestatic 76, 3) := by decide +kernel
theorem d_ContentStoreModel_poison_26 : decode prog_7_method_31_code 26 = .ok (.ifCond .eq 11, 3) := by decide +kernel
theorem d_ContentStoreModel_poison_29 : decode prog_7_method_31_code 29 = .ok (.iload_n 3, 1) := by decide +kernel
theorem d_ContentStoreModel_poison_30 : decode prog_7_method_31_code 30 = .ok (.sipush 255, 3) := by decide +kernel
theorem d_ContentStoreModel_poison_33 : decode prog_7_method_31_code 33 = .ok (.iand, 1) := by decide +kernel
theorem d_ContentStoreModel_poison_34 : decode prog_7_method_31_code 34 = .ok (.ifCond .ne 5, 3) := by decide +kernel
theorem d_ContentStoreModel_poison_37 : decode prog_7_method_31_code 37 = .ok (.iconst 0, 1) := by decide +kernel
theorem d_ContentStoreModel_poison_38 : decode prog_7_method_31_code 38 = .ok (.ireturn, 1) := by decide +kernel
theorem d_ContentStoreModel_poison_39 : decode prog_7_method_31_code 39 = .ok (.bipush 16, 2) := by decide +kernel
theorem d_ContentStoreModel_poison_41 : decode prog_7_method_31_code 41 = .ok (.aload_n 0, 1) := by decide +kernel
theorem d_ContentStoreModel_poison_42 : decode prog_7_method_31_code 42 = .ok (.getfield 42, 3) := by decide +kernel
theorem d_ContentStoreModel_poison_45 : decode prog_7_method_31_code 45 = .ok (.bipush 6, 2) := by decide +kernel
theorem d_ContentStoreModel_poison_47 : decode prog_7_method_31_code 47 = .ok (.iload_n 1, 1) := by decide +kernel
theorem d_ContentStoreModel_poison_48 : decode prog_7_method_31_code 48 = .ok (.imul, 1) := by decide +kernel
theorem d_ContentStoreModel_poison_49 : decode prog_7_method_31_code 49 = .ok (.iload_n 2, 1) := by decide +kernel
theorem d_ContentStoreModel_poison_50 : decode prog_7_method_31_code 50 = .ok (.bipush 16, 2) := by decide +kernel
theorem d_ContentStoreModel_poison_52 : decode prog_7_method_31_code 52 = .ok (.idiv, 1) := by decide +kernel
theorem d_ContentStoreModel_poison_53 : decode prog_7_method_31_code 53 = .ok (.iadd, 1) := by decide +kernel
theorem d_ContentStoreModel_poison_54 : decode prog_7_method_31_code 54 = .ok (.iaload, 1) := by decide +kernel
theorem d_ContentStoreModel_poison_55 : decode prog_7_method_31_code 55 = .ok (.imul, 1) := by decide +kernel
theorem d_ContentStoreModel_poison_56 : decode prog_7_method_31_code 56 = .ok (.iload_n 2, 1) := by decide +kernel
theorem d_ContentStoreModel_poison_57 : decode prog_7_method_31_code 57 = .ok (.bipush 16, 2) := by decide +kernel
theorem d_ContentStoreModel_poison_59 : decode prog_7_method_31_code 59 = .ok (.irem, 1) := by decide +kernel
theorem d_ContentStoreModel_poison_60 : decode prog_7_method_31_code 60 = .ok (.iadd, 1) := by decide +kernel
theorem d_ContentStoreModel_poison_61 : decode prog_7_method_31_code 61 = .ok (.istore 4, 2) := by decide +kernel
theorem d_ContentStoreModel_poison_63 : decode prog_7_method_31_code 63 = .ok (.aload_n 0, 1) := by decide +kernel
theorem d_ContentStoreModel_poison_64 : decode prog_7_method_31_code 64 = .ok (.getfield 33, 3) := by decide +kernel
theorem d_ContentStoreModel_poison_67 : decode prog_7_method_31_code 67 = .ok (.iload 4, 2) := by decide +kernel
theorem d_ContentStoreModel_poison_69 : decode prog_7_method_31_code 69 = .ok (.aload_n 0, 1) := by decide +kernel
theorem d_ContentStoreModel_poison_70 : decode prog_7_method_31_code 70 = .ok (.getfield 33, 3) := by decide +kernel
theorem d_ContentStoreModel_poison_73 : decode prog_7_method_31_code 73 = .ok (.iload 4, 2) := by decide +kernel
theorem d_ContentStoreModel_poison_75 : decode prog_7_method_31_code 75 = .ok (.iaload, 1) := by decide +kernel
theorem d_ContentStoreModel_poison_76 : decode prog_7_method_31_code 76 = .ok (.iload_n 3, 1) := by decide +kernel
theorem d_ContentStoreModel_poison_77 : decode prog_7_method_31_code 77 = .ok (.sipush 255, 3) := by decide +kernel
theorem d_ContentStoreModel_poison_80 : decode prog_7_method_31_code 80 = .ok (.iand, 1) := by decide +kernel
theorem d_ContentStoreModel_poison_81 : decode prog_7_method_31_code 81 = .ok (.ixor, 1) := by decide +kernel
theorem d_ContentStoreModel_poison_82 : decode prog_7_method_31_code 82 = .ok (.iastore, 1) := by decide +kernel
theorem d_ContentStoreModel_poison_83 : decode prog_7_method_31_code 83 = .ok (.iconst 1, 1) := by decide +kernel
theorem d_ContentStoreModel_poison_84 : decode prog_7_method_31_code 84 = .ok (.ireturn, 1) := by decide +kernel
theorem d_ContentStoreModel_sound_0 : decode prog_7_method_32_code 0 = .ok (.aload_n 0, 1) := by decide +kernel
theorem d_ContentStoreModel_sound_1 : decode prog_7_method_32_code 1 = .ok (.iconst 0, 1) := by decide +kernel
theorem d_ContentStoreModel_sound_2 : decode prog_7_method_32_code 2 = .ok (.putfield 70, 3) := by decide +kernel
theorem d_ContentStoreModel_sound_5 : decode prog_7_method_32_code 5 = .ok (.aload_n 0, 1) := by decide +kernel
theorem d_ContentStoreModel_sound_6 : decode prog_7_method_32_code 6 = .ok (.iload_n 1, 1) := by decide +kernel
theorem d_ContentStoreModel_sound_7 : decode prog_7_method_32_code 7 = .ok (.invokevirtual 149, 3) := by decide +kernel
theorem d_ContentStoreModel_sound_10 : decode prog_7_method_32_code 10 = .ok (.ifCond .eq 15, 3) := by decide +kernel
theorem d_ContentStoreModel_sound_13 : decode prog_7_method_32_code 13 = .ok (.aload_n 0, 1) := by decide +kernel
theorem d_ContentStoreModel_sound_14 : decode prog_7_method_32_code 14 = .ok (.iload_n 1, 1) := by decide +kernel
theorem d_ContentStoreModel_sound_15 : decode prog_7_method_32_code 15 = .ok (.invokevirtual 88, 3) := by decide +kernel
theorem d_ContentStoreModel_sound_18 : decode prog_7_method_32_code 18 = .ok (.ifCond .eq 7, 3) := by decide +kernel
theorem d_ContentStoreModel_sound_21 : decode prog_7_method_32_code 21 = .ok (.iconst 1, 1) := by decide +kernel
theorem d_ContentStoreModel_sound_22 : decode prog_7_method_32_code 22 = .ok (.goto 4, 3) := by decide +kernel
theorem d_ContentStoreModel_sound_25 : decode prog_7_method_32_code 25 = .ok (.iconst 0, 1) := by decide +kernel
theorem d_ContentStoreModel_sound_26 : decode prog_7_method_32_code 26 = .ok (.ireturn, 1) := by decide +kernel
theorem d_ContentStoreModel_mirror_0 : decode prog_7_method_33_code 0 = .ok (.aload_n 0, 1) := by decide +kernel
theorem d_ContentStoreModel_mirror_1 : decode prog_7_method_33_code 1 = .ok (.iconst 0, 1) := by decide +kernel
theorem d_ContentStoreModel_mirror_2 : decode prog_7_method_33_code 2 = .ok (.putfield 70, 3) := by decide +kernel
theorem d_ContentStoreModel_mirror_5 : decode prog_7_method_33_code 5 = .ok (.aload_n 0, 1) := by decide +kernel
theorem d_ContentStoreModel_mirror_6 : decode prog_7_method_33_code 6 = .ok (.iload_n 1, 1) := by decide +kernel
theorem d_ContentStoreModel_mirror_7 : decode prog_7_method_33_code 7 = .ok (.invokevirtual 149, 3) := by decide +kernel
theorem d_ContentStoreModel_mirror_10 : decode prog_7_method_33_code 10 = .ok (.ifCond .ne 5, 3) := by decide +kernel
theorem d_ContentStoreModel_mirror_13 : decode prog_7_method_33_code 13 = .ok (.iconst 0, 1) := by decide +kernel
theorem d_ContentStoreModel_mirror_14 : decode prog_7_method_33_code 14 = .ok (.ireturn, 1) := by decide +kernel
theorem d_ContentStoreModel_mirror_15 : decode prog_7_method_33_code 15 = .ok (.aload_n 0, 1) := by decide +kernel
theorem d_ContentStoreModel_mirror_16 : decode prog_7_method_33_code 16 = .ok (.getfield 54, 3) := by decide +kernel
theorem d_ContentStoreModel_mirror_19 : decode prog_7_method_33_code 19 = .ok (.iload_n 1, 1) := by decide +kernel
theorem d_ContentStoreModel_mirror_20 : decode prog_7_method_33_code 20 = .ok (.iconst 1, 1) := by decide +kernel
theorem d_ContentStoreModel_mirror_21 : decode prog_7_method_33_code 21 = .ok (.bastore, 1) := by decide +kernel
theorem d_ContentStoreModel_mirror_22 : decode prog_7_method_33_code 22 = .ok (.iconst 0, 1) := by decide +kernel
theorem d_ContentStoreModel_mirror_23 : decode prog_7_method_33_code 23 = .ok (.istore_n 2, 1) := by decide +kernel
theorem d_ContentStoreModel_mirror_24 : decode prog_7_method_33_code 24 = .ok (.iload_n 2, 1) := by decide +kernel
theorem d_ContentStoreModel_mirror_25 : decode prog_7_method_33_code 25 = .ok (.aload_n 0, 1) := by decide +kernel
theorem d_ContentStoreModel_mirror_26 : decode prog_7_method_33_code 26 = .ok (.getfield 39, 3) := by decide +kernel
theorem d_ContentStoreModel_mirror_29 : decode prog_7_method_33_code 29 = .ok (.iload_n 1, 1) := by decide +kernel
theorem d_ContentStoreModel_mirror_30 : decode prog_7_method_33_code 30 = .ok (.iaload, 1) := by decide +kernel
theorem d_ContentStoreModel_mirror_31 : decode prog_7_method_33_code 31 = .ok (.if_icmp .ge 26, 3) := by decide +kernel
theorem d_ContentStoreModel_mirror_34 : decode prog_7_method_33_code 34 = .ok (.aload_n 0, 1) := by decide +kernel
theorem d_ContentStoreModel_mirror_35 : decode prog_7_method_33_code 35 = .ok (.getfield 57, 3) := by decide +kernel
theorem d_ContentStoreModel_mirror_38 : decode prog_7_method_33_code 38 = .ok (.bipush 96, 2) := by decide +kernel
theorem d_ContentStoreModel_mirror_40 : decode prog_7_method_33_code 40 = .ok (.iload_n 1, 1) := by decide +kernel
theorem d_ContentStoreModel_mirror_41 : decode prog_7_method_33_code 41 = .ok (.imul, 1) := by decide +kernel
theorem d_ContentStoreModel_mirror_42 : decode prog_7_method_33_code 42 = .ok (.iload_n 2, 1) := by decide +kernel
theorem d_ContentStoreModel_mirror_43 : decode prog_7_method_33_code 43 = .ok (.iadd, 1) := by decide +kernel
theorem d_ContentStoreModel_mirror_44 : decode prog_7_method_33_code 44 = .ok (.aload_n 0, 1) := by decide +kernel
theorem d_ContentStoreModel_mirror_45 : decode prog_7_method_33_code 45 = .ok (.iload_n 1, 1) := by decide +kernel
theorem d_ContentStoreModel_mirror_46 : decode prog_7_method_33_code 46 = .ok (.iload_n 2, 1) := by decide +kernel
theorem d_ContentStoreModel_mirror_47 : decode prog_7_method_33_code 47 = .ok (.invokevirtual 146, 3) := by decide +kernel
theorem d_ContentStoreModel_mirror_50 : decode prog_7_method_33_code 50 = .ok (.iastore, 1) := by decide +kernel
theorem d_ContentStoreModel_mirror_51 : decode prog_7_method_33_code 51 = .ok (.iinc 2 1, 3) := by decide +kernel
theorem d_ContentStoreModel_mirror_54 : decode prog_7_method_33_code 54 = .ok (.goto (-30), 3) := by decide +kernel
theorem d_ContentStoreModel_mirror_57 : decode prog_7_method_33_code 57 = .ok (.iconst 1, 1) := by decide +kernel
theorem d_ContentStoreModel_mirror_58 : decode prog_7_method_33_code 58 = .ok (.ireturn, 1) := by decide +kernel
theorem d_ContentStoreModel_repair_0 : decode prog_7_method_34_code 0 = .ok (.aload_n 0, 1) := by decide +kernel
theorem d_ContentStoreModel_repair_1 : decode prog_7_method_34_code 1 = .ok (.iconst 0, 1) := by decide +kernel
theorem d_ContentStoreModel_repair_2 : decode prog_7_method_34_code 2 = .ok (.putfield 70, 3) := by decide +kernel
theorem d_ContentStoreModel_repair_5 : decode prog_7_method_34_code 5 = .ok (.aload_n 0, 1) := by decide +kernel
theorem d_ContentStoreModel_repair_6 : decode prog_7_method_34_code 6 = .ok (.iload_n 1, 1) := by decide +kernel
theorem d_ContentStoreModel_repair_7 : decode prog_7_method_34_code 7 = .ok (.invokevirtual 149, 3) := by decide +kernel
theorem d_ContentStoreModel_repair_10 : decode prog_7_method_34_code 10 = .ok (.ifCond .ne 5, 3) := by decide +kernel
theorem d_ContentStoreModel_repair_13 : decode prog_7_method_34_code 13 = .ok (.iconst (-1), 1) := by decide +kernel
theorem d_ContentStoreModel_repair_14 : decode prog_7_method_34_code 14 = .ok (.ireturn, 1) := by decide +kernel
theorem d_ContentStoreModel_repair_15 : decode prog_7_method_34_code 15 = .ok (.aload_n 0, 1) := by decide +kernel
theorem d_ContentStoreModel_repair_16 : decode prog_7_method_34_code 16 = .ok (.iload_n 1, 1) := by decide +kernel
theorem d_ContentStoreModel_repair_17 : decode prog_7_method_34_code 17 = .ok (.invokevirtual 88, 3) := by decide +kernel
theorem d_ContentStoreModel_repair_20 : decode prog_7_method_34_code 20 = .ok (.ifCond .eq 5, 3) := by decide +kernel
theorem d_ContentStoreModel_repair_23 : decode prog_7_method_34_code 23 = .ok (.iconst 0, 1) := by decide +kernel
theorem d_ContentStoreModel_repair_24 : decode prog_7_method_34_code 24 = .ok (.ireturn, 1) := by decide +kernel
theorem d_ContentStoreModel_repair_25 : decode prog_7_method_34_code 25 = .ok (.aload_n 0, 1) := by decide +kernel
theorem d_ContentStoreModel_repair_26 : decode prog_7_method_34_code 26 = .ok (.getfield 39, 3) := by decide +kernel
theorem d_ContentStoreModel_repair_29 : decode prog_7_method_34_code 29 = .ok (.iload_n 1, 1) := by decide +kernel
theorem d_ContentStoreModel_repair_30 : decode prog_7_method_34_code 30 = .ok (.iaload, 1) := by decide +kernel
theorem d_ContentStoreModel_repair_31 : decode prog_7_method_34_code 31 = .ok (.istore_n 2, 1) := by decide +kernel
theorem d_ContentStoreModel_repair_32 : decode prog_7_method_34_code 32 = .ok (.iconst 0, 1) := by decide +kernel
theorem d_ContentStoreModel_repair_33 : decode prog_7_method_34_code 33 = .ok (.istore_n 3, 1) := by decide +kernel
theorem d_ContentStoreModel_repair_34 : decode prog_7_method_34_code 34 = .ok (.iload_n 3, 1) := by decide +kernel
theorem d_ContentStoreModel_repair_35 : decode prog_7_method_34_code 35 = .ok (.iload_n 2, 1) := by decide +kernel
theorem d_ContentStoreModel_repair_36 : decode prog_7_method_34_code 36 = .ok (.if_icmp .ge 26, 3) := by decide +kernel
theorem d_ContentStoreModel_repair_39 : decode prog_7_method_34_code 39 = .ok (.aload_n 0, 1) := by decide +kernel
theorem d_ContentStoreModel_repair_40 : decode prog_7_method_34_code 40 = .ok (.getfield 63, 3) := by decide +kernel
theorem d_ContentStoreModel_repair_43 : decode prog_7_method_34_code 43 = .ok (.iload_n 3, 1) := by decide +kernel
theorem d_ContentStoreModel_repair_44 : decode prog_7_method_34_code 44 = .ok (.aload_n 0, 1) := by decide +kernel
theorem d_ContentStoreModel_repair_45 : decode prog_7_method_34_code 45 = .ok (.getfield 57, 3) := by decide +kernel
theorem d_ContentStoreModel_repair_48 : decode prog_7_method_34_code 48 = .ok (.bipush 96, 2) := by decide +kernel
theorem d_ContentStoreModel_repair_50 : decode prog_7_method_34_code 50 = .ok (.iload_n 1, 1) := by decide +kernel
theorem d_ContentStoreModel_repair_51 : decode prog_7_method_34_code 51 = .ok (.imul, 1) := by decide +kernel
theorem d_ContentStoreModel_repair_52 : decode prog_7_method_34_code 52 = .ok (.iload_n 3, 1) := by decide +kernel
theorem d_ContentStoreModel_repair_53 : decode prog_7_method_34_code 53 = .ok (.iadd, 1) := by decide +kernel
theorem d_ContentStoreModel_repair_54 : decode prog_7_method_34_code 54 = .ok (.iaload, 1) := by decide +kernel
theorem d_ContentStoreModel_repair_55 : decode prog_7_method_34_code 55 = .ok (.iastore, 1) := by decide +kernel
theorem d_ContentStoreModel_repair_56 : decode prog_7_method_34_code 56 = .ok (.iinc 3 1, 3) := by decide +kernel
theorem d_ContentStoreModel_repair_59 : decode prog_7_method_34_code 59 = .ok (.goto (-25), 3) := by decide +kernel
theorem d_ContentStoreModel_repair_62 : decode prog_7_method_34_code 62 = .ok (.aload_n 0, 1) := by decide +kernel
theorem d_ContentStoreModel_repair_63 : decode prog_7_method_34_code 63 = .ok (.getfield 54, 3) := by decide +kernel
theorem d_ContentStoreModel_repair_66 : decode prog_7_method_34_code 66 = .ok (.iload_n 1, 1) := by decide +kernel
theorem d_ContentStoreModel_repair_67 : decode prog_7_method_34_code 67 = .ok (.baload, 1) := by decide +kernel
theorem d_ContentStoreModel_repair_68 : decode prog_7_method_34_code 68 = .ok (.ifCond .eq 17, 3) := by decide +kernel
theorem d_ContentStoreModel_repair_71 : decode prog_7_method_34_code 71 = .ok (.aload_n 0, 1) := by decide +kernel
theorem d_ContentStoreModel_repair_72 : decode prog_7_method_34_code 72 = .ok (.iload_n 2, 1) := by decide +kernel
theorem d_ContentStoreModel_repair_73 : decode prog_7_method_34_code 73 = .ok (.invokevirtual 102, 3) := by decide +kernel
theorem d_ContentStoreModel_repair_76 : decode prog_7_method_34_code 76 = .ok (.aload_n 0, 1) := by decide +kernel
theorem d_ContentStoreModel_repair_77 : decode prog_7_method_34_code 77 = .ok (.getfield 45, 3) := by decide +kernel
theorem d_ContentStoreModel_repair_80 : decode prog_7_method_34_code 80 = .ok (.iload_n 1, 1) := by decide +kernel
theorem d_ContentStoreModel_repair_81 : decode prog_7_method_34_code 81 = .ok (.iaload, 1) := by decide +kernel
theorem d_ContentStoreModel_repair_82 : decode prog_7_method_34_code 82 = .ok (.if_icmp .eq 6, 3) := by decide +kernel
theorem d_ContentStoreModel_repair_85 : decode prog_7_method_34_code 85 = .ok (.bipush (-2), 2) := by decide +kernel
theorem d_ContentStoreModel_repair_87 : decode prog_7_method_34_code 87 = .ok (.ireturn, 1) := by decide +kernel
theorem d_ContentStoreModel_repair_88 : decode prog_7_method_34_code 88 = .ok (.aload_n 0, 1) := by decide +kernel
theorem d_ContentStoreModel_repair_89 : decode prog_7_method_34_code 89 = .ok (.invokevirtual 94, 3) := by decide +kernel
theorem d_ContentStoreModel_repair_92 : decode prog_7_method_34_code 92 = .ok (.aload_n 0, 1) := by decide +kernel
theorem d_ContentStoreModel_repair_93 : decode prog_7_method_34_code 93 = .ok (.iload_n 1, 1) := by decide +kernel
theorem d_ContentStoreModel_repair_94 : decode prog_7_method_34_code 94 = .ok (.iload_n 2, 1) := by decide +kernel
theorem d_ContentStoreModel_repair_95 : decode prog_7_method_34_code 95 = .ok (.invokevirtual 98, 3) := by decide +kernel
theorem d_ContentStoreModel_repair_98 : decode prog_7_method_34_code 98 = .ok (.iadd, 1) := by decide +kernel
theorem d_ContentStoreModel_repair_99 : decode prog_7_method_34_code 99 = .ok (.aload_n 0, 1) := by decide +kernel
theorem d_ContentStoreModel_repair_100 : decode prog_7_method_34_code 100 = .ok (.getfield 66, 3) := by decide +kernel
theorem d_ContentStoreModel_repair_103 : decode prog_7_method_34_code 103 = .ok (.if_icmp .le 6, 3) := by decide +kernel
theorem d_ContentStoreModel_repair_106 : decode prog_7_method_34_code 106 = .ok (.bipush (-3), 2) := by decide +kernel
theorem d_ContentStoreModel_repair_108 : decode prog_7_method_34_code 108 = .ok (.ireturn, 1) := by decide +kernel
theorem d_ContentStoreModel_repair_109 : decode prog_7_method_34_code 109 = .ok (.aload_n 0, 1) := by decide +kernel
theorem d_ContentStoreModel_repair_110 : decode prog_7_method_34_code 110 = .ok (.iload_n 1, 1) := by decide +kernel
theorem d_ContentStoreModel_repair_111 : decode prog_7_method_34_code 111 = .ok (.iconst 1, 1) := by decide +kernel
theorem d_ContentStoreModel_repair_112 : decode prog_7_method_34_code 112 = .ok (.invokevirtual 110, 3) := by decide +kernel
theorem d_ContentStoreModel_repair_115 : decode prog_7_method_34_code 115 = .ok (.aload_n 0, 1) := by decide +kernel
theorem d_ContentStoreModel_repair_116 : decode prog_7_method_34_code 116 = .ok (.invokevirtual 152, 3) := by decide +kernel
theorem d_ContentStoreModel_repair_119 : decode prog_7_method_34_code 119 = .ok (.iconst 1, 1) := by decide +kernel
theorem d_ContentStoreModel_repair_120 : decode prog_7_method_34_code 120 = .ok (.ireturn, 1) := by decide +kernel
theorem d_ContentStoreModel_tidy_0 : decode prog_7_method_24_code 0 = .ok (.iconst 0, 1) := by decide +kernel
theorem d_ContentStoreModel_tidy_1 : decode prog_7_method_24_code 1 = .ok (.istore_n 1, 1) := by decide +kernel
theorem d_ContentStoreModel_tidy_2 : decode prog_7_method_24_code 2 = .ok (.iload_n 1, 1) := by decide +kernel
theorem d_ContentStoreModel_tidy_3 : decode prog_7_method_24_code 3 = .ok (.sipush 400, 3) := by decide +kernel
theorem d_ContentStoreModel_tidy_6 : decode prog_7_method_24_code 6 = .ok (.if_icmp .ge 33, 3) := by decide +kernel
theorem d_ContentStoreModel_tidy_9 : decode prog_7_method_24_code 9 = .ok (.aload_n 0, 1) := by decide +kernel
theorem d_ContentStoreModel_tidy_10 : decode prog_7_method_24_code 10 = .ok (.getfield 27, 3) := by decide +kernel
theorem d_ContentStoreModel_tidy_13 : decode prog_7_method_24_code 13 = .ok (.iload_n 1, 1) := by decide +kernel
theorem d_ContentStoreModel_tidy_14 : decode prog_7_method_24_code 14 = .ok (.iaload, 1) := by decide +kernel
theorem d_ContentStoreModel_tidy_15 : decode prog_7_method_24_code 15 = .ok (.ifCond .le 18, 3) := by decide +kernel
theorem d_ContentStoreModel_tidy_18 : decode prog_7_method_24_code 18 = .ok (.aload_n 0, 1) := by decide +kernel
theorem d_ContentStoreModel_tidy_19 : decode prog_7_method_24_code 19 = .ok (.iload_n 1, 1) := by decide +kernel
theorem d_ContentStoreModel_tidy_20 : decode prog_7_method_24_code 20 = .ok (.invokevirtual 143, 3) := by decide +kernel
theorem d_ContentStoreModel_tidy_23 : decode prog_7_method_24_code 23 = .ok (.ifCond .ne 10, 3) := by decide +kernel
theorem d_ContentStoreModel_tidy_26 : decode prog_7_method_24_code 26 = .ok (.aload_n 0, 1) := by decide +kernel
theorem d_ContentStoreModel_tidy_27 : decode prog_7_method_24_code 27 = .ok (.getfield 27, 3) := by decide +kernel
theorem d_ContentStoreModel_tidy_30 : decode prog_7_method_24_code 30 = .ok (.iload_n 1, 1) := by decide +kernel
theorem d_ContentStoreModel_tidy_31 : decode prog_7_method_24_code 31 = .ok (.iconst 0, 1) := by decide +kernel
theorem d_ContentStoreModel_tidy_32 : decode prog_7_method_24_code 32 = .ok (.iastore, 1) := by decide +kernel
