theorem d_ContentStoreModel_tidy_33 : decode prog_7_method_24_code 33 = .ok (.iinc 1 1, 3) := by decide +kernel
theorem d_ContentStoreModel_tidy_36 : decode prog_7_method_24_code 36 = .ok (.goto (-34), 3) := by decide +kernel
theorem d_ContentStoreModel_tidy_39 : decode prog_7_method_24_code 39 = .ok (.return_, 1) := by decide +kernel
theorem d_ContentStoreModel_having_0 : decode prog_7_method_23_code 0 = .ok (.iconst 0, 1) := by decide +kernel
theorem d_ContentStoreModel_having_1 : decode prog_7_method_23_code 1 = .ok (.istore_n 2, 1) := by decide +kernel
theorem d_ContentStoreModel_having_2 : decode prog_7_method_23_code 2 = .ok (.iconst 0, 1) := by decide +kernel
theorem d_ContentStoreModel_having_3 : decode prog_7_method_23_code 3 = .ok (.istore_n 3, 1) := by decide +kernel
theorem d_ContentStoreModel_having_4 : decode prog_7_method_23_code 4 = .ok (.iload_n 3, 1) := by decide +kernel
theorem d_ContentStoreModel_having_5 : decode prog_7_method_23_code 5 = .ok (.aload_n 0, 1) := by decide +kernel
theorem d_ContentStoreModel_having_6 : decode prog_7_method_23_code 6 = .ok (.getfield 73, 3) := by decide +kernel
theorem d_ContentStoreModel_having_9 : decode prog_7_method_23_code 9 = .ok (.if_icmp .ge 85, 3) := by decide +kernel
theorem d_ContentStoreModel_having_12 : decode prog_7_method_23_code 12 = .ok (.iconst 0, 1) := by decide +kernel
theorem d_ContentStoreModel_having_13 : decode prog_7_method_23_code 13 = .ok (.istore 4, 2) := by decide +kernel
theorem d_ContentStoreModel_having_15 : decode prog_7_method_23_code 15 = .ok (.iconst 0, 1) := by decide +kernel
theorem d_ContentStoreModel_having_16 : decode prog_7_method_23_code 16 = .ok (.istore 5, 2) := by decide +kernel
theorem d_ContentStoreModel_having_18 : decode prog_7_method_23_code 18 = .ok (.iload 5, 2) := by decide +kernel
theorem d_ContentStoreModel_having_20 : decode prog_7_method_23_code 20 = .ok (.aload_n 0, 1) := by decide +kernel
theorem d_ContentStoreModel_having_21 : decode prog_7_method_23_code 21 = .ok (.getfield 39, 3) := by decide +kernel
theorem d_ContentStoreModel_having_24 : decode prog_7_method_23_code 24 = .ok (.iload_n 3, 1) := by decide +kernel
theorem d_ContentStoreModel_having_25 : decode prog_7_method_23_code 25 = .ok (.iaload, 1) := by decide +kernel
theorem d_ContentStoreModel_having_26 : decode prog_7_method_23_code 26 = .ok (.invokestatic 125, 3) := by decide +kernel
theorem d_ContentStoreModel_having_29 : decode prog_7_method_23_code 29 = .ok (.if_icmp .ge 46, 3) := by decide +kernel
theorem d_ContentStoreModel_having_32 : decode prog_7_method_23_code 32 = .ok (.aload_n 0, 1) := by decide +kernel
theorem d_ContentStoreModel_having_33 : decode prog_7_method_23_code 33 = .ok (.getfield 36, 3) := by decide +kernel
theorem d_ContentStoreModel_having_36 : decode prog_7_method_23_code 36 = .ok (.iload_n 3, 1) := by decide +kernel
theorem d_ContentStoreModel_having_37 : decode prog_7_method_23_code 37 = .ok (.baload, 1) := by decide +kernel
theorem d_ContentStoreModel_having_38 : decode prog_7_method_23_code 38 = .ok (.ifCond .eq 37, 3) := by decide +kernel
theorem d_ContentStoreModel_having_41 : decode prog_7_method_23_code 41 = .ok (.iload 4, 2) := by decide +kernel
theorem d_ContentStoreModel_having_43 : decode prog_7_method_23_code 43 = .ok (.ifCond .ne 19, 3) := by decide +kernel
theorem d_ContentStoreModel_having_46 : decode prog_7_method_23_code 46 = .ok (.aload_n 0, 1) := by decide +kernel
theorem d_ContentStoreModel_having_47 : decode prog_7_method_23_code 47 = .ok (.getfield 42, 3) := by decide +kernel
theorem d_ContentStoreModel_having_50 : decode prog_7_method_23_code 50 = .ok (.bipush 6, 2) := by decide +kernel
theorem d_ContentStoreModel_having_52 : decode prog_7_method_23_code 52 = .ok (.iload_n 3, 1) := by decide +kernel
theorem d_ContentStoreModel_having_53 : decode prog_7_method_23_code 53 = .ok (.imul, 1) := by decide +kernel
theorem d_ContentStoreModel_having_54 : decode prog_7_method_23_code 54 = .ok (.iload 5, 2) := by decide +kernel
theorem d_ContentStoreModel_having_56 : decode prog_7_method_23_code 56 = .ok (.iadd, 1) := by decide +kernel
theorem d_ContentStoreModel_having_57 : decode prog_7_method_23_code 57 = .ok (.iaload, 1) := by decide +kernel
theorem d_ContentStoreModel_having_58 : decode prog_7_method_23_code 58 = .ok (.iload_n 1, 1) := by decide +kernel
theorem d_ContentStoreModel_having_59 : decode prog_7_method_23_code 59 = .ok (.if_icmp .ne 7, 3) := by decide +kernel
theorem d_ContentStoreModel_having_62 : decode prog_7_method_23_code 62 = .ok (.iconst 1, 1) := by decide +kernel
theorem d_ContentStoreModel_having_63 : decode prog_7_method_23_code 63 = .ok (.goto 4, 3) := by decide +kernel
theorem d_ContentStoreModel_having_66 : decode prog_7_method_23_code 66 = .ok (.iconst 0, 1) := by decide +kernel
theorem d_ContentStoreModel_having_67 : decode prog_7_method_23_code 67 = .ok (.istore 4, 2) := by decide +kernel
theorem d_ContentStoreModel_having_69 : decode prog_7_method_23_code 69 = .ok (.iinc 5 1, 3) := by decide +kernel
theorem d_ContentStoreModel_having_72 : decode prog_7_method_23_code 72 = .ok (.goto (-54), 3) := by decide +kernel
theorem d_ContentStoreModel_having_75 : decode prog_7_method_23_code 75 = .ok (.iload_n 2, 1) := by decide +kernel
theorem d_ContentStoreModel_having_76 : decode prog_7_method_23_code 76 = .ok (.iload 4, 2) := by decide +kernel
theorem d_ContentStoreModel_having_78 : decode prog_7_method_23_code 78 = .ok (.ifCond .eq 7, 3) := by decide +kernel
theorem d_ContentStoreModel_having_81 : decode prog_7_method_23_code 81 = .ok (.iconst 1, 1) := by decide +kernel
theorem d_ContentStoreModel_having_82 : decode prog_7_method_23_code 82 = .ok (.goto 4, 3) := by decide +kernel
theorem d_ContentStoreModel_having_85 : decode prog_7_method_23_code 85 = .ok (.iconst 0, 1) := by decide +kernel
theorem d_ContentStoreModel_having_86 : decode prog_7_method_23_code 86 = .ok (.iadd, 1) := by decide +kernel
theorem d_ContentStoreModel_having_87 : decode prog_7_method_23_code 87 = .ok (.istore_n 2, 1) := by decide +kernel
theorem d_ContentStoreModel_having_88 : decode prog_7_method_23_code 88 = .ok (.iinc 3 1, 3) := by decide +kernel
theorem d_ContentStoreModel_having_91 : decode prog_7_method_23_code 91 = .ok (.goto (-87), 3) := by decide +kernel
theorem d_ContentStoreModel_having_94 : decode prog_7_method_23_code 94 = .ok (.iload_n 2, 1) := by decide +kernel
theorem d_ContentStoreModel_having_95 : decode prog_7_method_23_code 95 = .ok (.ireturn, 1) := by decide +kernel
theorem d_ContentStoreModel_refer_0 : decode prog_7_method_36_code 0 = .ok (.aload_n 0, 1) := by decide +kernel
theorem d_ContentStoreModel_refer_1 : decode prog_7_method_36_code 1 = .ok (.iconst 0, 1) := by decide +kernel
theorem d_ContentStoreModel_refer_2 : decode prog_7_method_36_code 2 = .ok (.putfield 70, 3) := by decide +kernel
theorem d_ContentStoreModel_refer_5 : decode prog_7_method_36_code 5 = .ok (.iload_n 1, 1) := by decide +kernel
theorem d_ContentStoreModel_refer_6 : decode prog_7_method_36_code 6 = .ok (.iconst 0, 1) := by decide +kernel
theorem d_ContentStoreModel_refer_7 : decode prog_7_method_36_code 7 = .ok (.bipush 19, 2) := by decide +kernel
theorem d_ContentStoreModel_refer_9 : decode prog_7_method_36_code 9 = .ok (.invokestatic 76, 3) := by decide +kernel
theorem d_ContentStoreModel_refer_12 : decode prog_7_method_36_code 12 = .ok (.ifCond .eq 16, 3) := by decide +kernel
theorem d_ContentStoreModel_refer_15 : decode prog_7_method_36_code 15 = .ok (.iload_n 2, 1) := by decide +kernel
theorem d_ContentStoreModel_refer_16 : decode prog_7_method_36_code 16 = .ok (.iconst (-1), 1) := by decide +kernel
theorem d_ContentStoreModel_refer_17 : decode prog_7_method_36_code 17 = .ok (.if_icmp .eq 13, 3) := by decide +kernel
theorem d_ContentStoreModel_refer_20 : decode prog_7_method_36_code 20 = .ok (.aload_n 0, 1) := by decide +kernel
theorem d_ContentStoreModel_refer_21 : decode prog_7_method_36_code 21 = .ok (.iload_n 2, 1) := by decide +kernel
theorem d_ContentStoreModel_refer_22 : decode prog_7_method_36_code 22 = .ok (.invokevirtual 149, 3) := by decide +kernel
theorem d_ContentStoreModel_refer_25 : decode prog_7_method_36_code 25 = .ok (.ifCond .ne 5, 3) := by decide +kernel
theorem d_ContentStoreModel_refer_28 : decode prog_7_method_36_code 28 = .ok (.iconst 0, 1) := by decide +kernel
theorem d_ContentStoreModel_refer_29 : decode prog_7_method_36_code 29 = .ok (.ireturn, 1) := by decide +kernel
theorem d_ContentStoreModel_refer_30 : decode prog_7_method_36_code 30 = .ok (.aload_n 0, 1) := by decide +kernel
theorem d_ContentStoreModel_refer_31 : decode prog_7_method_36_code 31 = .ok (.getfield 60, 3) := by decide +kernel
theorem d_ContentStoreModel_refer_34 : decode prog_7_method_36_code 34 = .ok (.iload_n 1, 1) := by decide +kernel
theorem d_ContentStoreModel_refer_35 : decode prog_7_method_36_code 35 = .ok (.iload_n 2, 1) := by decide +kernel
theorem d_ContentStoreModel_refer_36 : decode prog_7_method_36_code 36 = .ok (.iastore, 1) := by decide +kernel
theorem d_ContentStoreModel_refer_37 : decode prog_7_method_36_code 37 = .ok (.iconst 1, 1) := by decide +kernel
theorem d_ContentStoreModel_refer_38 : decode prog_7_method_36_code 38 = .ok (.ireturn, 1) := by decide +kernel
theorem d_ContentStoreModel_referred_0 : decode prog_7_method_37_code 0 = .ok (.aload_n 0, 1) := by decide +kernel
theorem d_ContentStoreModel_referred_1 : decode prog_7_method_37_code 1 = .ok (.iconst 0, 1) := by decide +kernel
theorem d_ContentStoreModel_referred_2 : decode prog_7_method_37_code 2 = .ok (.putfield 70, 3) := by decide +kernel
theorem d_ContentStoreModel_referred_5 : decode prog_7_method_37_code 5 = .ok (.iload_n 1, 1) := by decide +kernel
theorem d_ContentStoreModel_referred_6 : decode prog_7_method_37_code 6 = .ok (.iconst 0, 1) := by decide +kernel
theorem d_ContentStoreModel_referred_7 : decode prog_7_method_37_code 7 = .ok (.bipush 19, 2) := by decide +kernel
theorem d_ContentStoreModel_referred_9 : decode prog_7_method_37_code 9 = .ok (.invokestatic 76, 3) := by decide +kernel
theorem d_ContentStoreModel_referred_12 : decode prog_7_method_37_code 12 = .ok (.ifCond .eq 12, 3) := by decide +kernel
theorem d_ContentStoreModel_referred_15 : decode prog_7_method_37_code 15 = .ok (.aload_n 0, 1) := by decide +kernel
theorem d_ContentStoreModel_referred_16 : decode prog_7_method_37_code 16 = .ok (.getfield 60, 3) := by decide +kernel
theorem d_ContentStoreModel_referred_19 : decode prog_7_method_37_code 19 = .ok (.iload_n 1, 1) := by decide +kernel
theorem d_ContentStoreModel_referred_20 : decode prog_7_method_37_code 20 = .ok (.iaload, 1) := by decide +kernel
theorem d_ContentStoreModel_referred_21 : decode prog_7_method_37_code 21 = .ok (.goto 4, 3) := by decide +kernel
theorem d_ContentStoreModel_referred_24 : decode prog_7_method_37_code 24 = .ok (.iconst (-1), 1) := by decide +kernel
theorem d_ContentStoreModel_referred_25 : decode prog_7_method_37_code 25 = .ok (.ireturn, 1) := by decide +kernel
theorem d_ContentStoreModel_sweep_0 : decode prog_7_method_38_code 0 = .ok (.aload_n 0, 1) := by decide +kernel
theorem d_ContentStoreModel_sweep_1 : decode prog_7_method_38_code 1 = .ok (.iconst 0, 1) := by decide +kernel
theorem d_ContentStoreModel_sweep_2 : decode prog_7_method_38_code 2 = .ok (.putfield 70, 3) := by decide +kernel
theorem d_ContentStoreModel_sweep_5 : decode prog_7_method_38_code 5 = .ok (.iconst 0, 1) := by decide +kernel
theorem d_ContentStoreModel_sweep_6 : decode prog_7_method_38_code 6 = .ok (.istore_n 1, 1) := by decide +kernel
theorem d_ContentStoreModel_sweep_7 : decode prog_7_method_38_code 7 = .ok (.iconst 0, 1) := by decide +kernel
theorem d_ContentStoreModel_sweep_8 : decode prog_7_method_38_code 8 = .ok (.istore_n 2, 1) := by decide +kernel
theorem d_ContentStoreModel_sweep_9 : decode prog_7_method_38_code 9 = .ok (.iload_n 2, 1) := by decide +kernel
theorem d_ContentStoreModel_sweep_10 : decode prog_7_method_38_code 10 = .ok (.aload_n 0, 1) := by decide +kernel
theorem d_ContentStoreModel_sweep_11 : decode prog_7_method_38_code 11 = .ok (.getfield 73, 3) := by decide +kernel
theorem d_ContentStoreModel_sweep_14 : decode prog_7_method_38_code 14 = .ok (.if_icmp .ge 85, 3) := by decide +kernel
theorem d_ContentStoreModel_sweep_17 : decode prog_7_method_38_code 17 = .ok (.aload_n 0, 1) := by decide +kernel
theorem d_ContentStoreModel_sweep_18 : decode prog_7_method_38_code 18 = .ok (.getfield 51, 3) := by decide +kernel
theorem d_ContentStoreModel_sweep_21 : decode prog_7_method_38_code 21 = .ok (.iload_n 2, 1) := by decide +kernel
theorem d_ContentStoreModel_sweep_22 : decode prog_7_method_38_code 22 = .ok (.iaload, 1) := by decide +kernel
theorem d_ContentStoreModel_sweep_23 : decode prog_7_method_38_code 23 = .ok (.ifCond .lt 7, 3) := by decide +kernel
theorem d_ContentStoreModel_sweep_26 : decode prog_7_method_38_code 26 = .ok (.iconst 1, 1) := by decide +kernel
theorem d_ContentStoreModel_sweep_27 : decode prog_7_method_38_code 27 = .ok (.goto 4, 3) := by decide +kernel
theorem d_ContentStoreModel_sweep_30 : decode prog_7_method_38_code 30 = .ok (.iconst 0, 1) := by decide +kernel
theorem d_ContentStoreModel_sweep_31 : decode prog_7_method_38_code 31 = .ok (.istore_n 3, 1) := by decide +kernel
theorem d_ContentStoreModel_sweep_32 : decode prog_7_method_38_code 32 = .ok (.iconst 0, 1) := by decide +kernel
theorem d_ContentStoreModel_sweep_33 : decode prog_7_method_38_code 33 = .ok (.istore 4, 2) := by decide +kernel
theorem d_ContentStoreModel_sweep_35 : decode prog_7_method_38_code 35 = .ok (.iload 4, 2) := by decide +kernel
theorem d_ContentStoreModel_sweep_37 : decode prog_7_method_38_code 37 = .ok (.bipush 20, 2) := by decide +kernel
theorem d_ContentStoreModel_sweep_39 : decode prog_7_method_38_code 39 = .ok (.if_icmp .ge 30, 3) := by decide +kernel
theorem d_ContentStoreModel_sweep_42 : decode prog_7_method_38_code 42 = .ok (.iload_n 3, 1) := by decide +kernel
theorem d_ContentStoreModel_sweep_43 : decode prog_7_method_38_code 43 = .ok (.ifCond .ne 14, 3) := by decide +kernel
theorem d_ContentStoreModel_sweep_46 : decode prog_7_method_38_code 46 = .ok (.aload_n 0, 1) := by decide +kernel
theorem d_ContentStoreModel_sweep_47 : decode prog_7_method_38_code 47 = .ok (.getfield 60, 3) := by decide +kernel
theorem d_ContentStoreModel_sweep_50 : decode prog_7_method_38_code 50 = .ok (.iload 4, 2) := by decide +kernel
theorem d_ContentStoreModel_sweep_52 : decode prog_7_method_38_code 52 = .ok (.iaload, 1) := by decide +kernel
theorem d_ContentStoreModel_sweep_53 : decode prog_7_method_38_code 53 = .ok (.iload_n 2, 1) := by decide +kernel
theorem d_ContentStoreModel_sweep_54 : decode prog_7_method_38_code 54 = .ok (.if_icmp .ne 7, 3) := by decide +kernel
theorem d_ContentStoreModel_sweep_57 : decode prog_7_method_38_code 57 = .ok (.iconst 1, 1) := by decide +kernel
theorem d_ContentStoreModel_sweep_58 : decode prog_7_method_38_code 58 = .ok (.goto 4, 3) := by decide +kernel
theorem d_ContentStoreModel_sweep_61 : decode prog_7_method_38_code 61 = .ok (.iconst 0, 1) := by decide +kernel
theorem d_ContentStoreModel_sweep_62 : decode prog_7_method_38_code 62 = .ok (.istore_n 3, 1) := by decide +kernel
theorem d_ContentStoreModel_sweep_63 : decode prog_7_method_38_code 63 = .ok (.iinc 4 1, 3) := by decide +kernel
theorem d_ContentStoreModel_sweep_66 : decode prog_7_method_38_code 66 = .ok (.goto (-31), 3) := by decide +kernel
theorem d_ContentStoreModel_sweep_69 : decode prog_7_method_38_code 69 = .ok (.iload_n 3, 1) := by decide +kernel
theorem d_ContentStoreModel_sweep_70 : decode prog_7_method_38_code 70 = .ok (.ifCond .ne 23, 3) := by decide +kernel
theorem d_ContentStoreModel_sweep_73 : decode prog_7_method_38_code 73 = .ok (.aload_n 0, 1) := by decide +kernel
theorem d_ContentStoreModel_sweep_74 : decode prog_7_method_38_code 74 = .ok (.getfield 36, 3) := by decide +kernel
theorem d_ContentStoreModel_sweep_77 : decode prog_7_method_38_code 77 = .ok (.iload_n 2, 1) := by decide +kernel
theorem d_ContentStoreModel_sweep_78 : decode prog_7_method_38_code 78 = .ok (.baload, 1) := by decide +kernel
theorem d_ContentStoreModel_sweep_79 : decode prog_7_method_38_code 79 = .ok (.ifCond .ne 6, 3) := by decide +kernel
theorem d_ContentStoreModel_sweep_82 : decode prog_7_method_38_code 82 = .ok (.goto 11, 3) := by decide +kernel
theorem d_ContentStoreModel_sweep_85 : decode prog_7_method_38_code 85 = .ok (.aload_n 0, 1) := by decide +kernel
theorem d_ContentStoreModel_sweep_86 : decode prog_7_method_38_code 86 = .ok (.iload_n 2, 1) := by decide +kernel
theorem d_ContentStoreModel_sweep_87 : decode prog_7_method_38_code 87 = .ok (.invokevirtual 155, 3) := by decide +kernel
theorem d_ContentStoreModel_sweep_90 : decode prog_7_method_38_code 90 = .ok (.iinc 1 1, 3) := by decide +kernel
theorem d_ContentStoreModel_sweep_93 : decode prog_7_method_38_code 93 = .ok (.iinc 2 1, 3) := by decide +kernel
theorem d_ContentStoreModel_sweep_96 : decode prog_7_method_38_code 96 = .ok (.goto (-87), 3) := by decide +kernel
theorem d_ContentStoreModel_sweep_99 : decode prog_7_method_38_code 99 = .ok (.aload_n 0, 1) := by decide +kernel
theorem d_ContentStoreModel_sweep_100 : decode prog_7_method_38_code 100 = .ok (.invokevirtual 152, 3) := by decide +kernel
theorem d_ContentStoreModel_sweep_103 : decode prog_7_method_38_code 103 = .ok (.iload_n 1, 1) := by decide +kernel
theorem d_ContentStoreModel_sweep_104 : decode prog_7_method_38_code 104 = .ok (.ireturn, 1) := by decide +kernel
theorem d_ContentStoreModel_goes_0 : decode prog_7_method_35_code 0 = .ok (.aload_n 0, 1) := by decide +kernel
theorem d_ContentStoreModel_goes_1 : decode prog_7_method_35_code 1 = .ok (.getfield 36, 3) := by decide +kernel
theorem d_ContentStoreModel_goes_4 : decode prog_7_method_35_code 4 = .ok (.iload_n 1, 1) := by decide +kernel
theorem d_ContentStoreModel_goes_5 : decode prog_7_method_35_code 5 = .ok (.iconst 0, 1) := by decide +kernel
theorem d_ContentStoreModel_goes_6 : decode prog_7_method_35_code 6 = .ok (.bastore, 1) := by decide +kernel
theorem d_ContentStoreModel_goes_7 : decode prog_7_method_35_code 7 = .ok (.aload_n 0, 1) := by decide +kernel
theorem d_ContentStoreModel_goes_8 : decode prog_7_method_35_code 8 = .ok (.getfield 51, 3) := by decide +kernel
theorem d_ContentStoreModel_goes_11 : decode prog_7_method_35_code 11 = .ok (.iload_n 1, 1) := by decide +kernel
theorem d_ContentStoreModel_goes_12 : decode prog_7_method_35_code 12 = .ok (.iconst (-1), 1) := by decide +kernel
theorem d_ContentStoreModel_goes_13 : decode prog_7_method_35_code 13 = .ok (.iastore, 1) := by decide +kernel
theorem d_ContentStoreModel_goes_14 : decode prog_7_method_35_code 14 = .ok (.iconst 0, 1) := by decide +kernel
theorem d_ContentStoreModel_goes_15 : decode prog_7_method_35_code 15 = .ok (.istore_n 2, 1) := by decide +kernel
theorem d_ContentStoreModel_goes_16 : decode prog_7_method_35_code 16 = .ok (.iload_n 2, 1) := by decide +kernel
theorem d_ContentStoreModel_goes_17 : decode prog_7_method_35_code 17 = .ok (.bipush 20, 2) := by decide +kernel
theorem d_ContentStoreModel_goes_19 : decode prog_7_method_35_code 19 = .ok (.if_icmp .ge 35, 3) := by decide +kernel
theorem d_ContentStoreModel_goes_22 : decode prog_7_method_35_code 22 = .ok (.aload_n 0, 1) := by decide +kernel
theorem d_ContentStoreModel_goes_23 : decode prog_7_method_35_code 23 = .ok (.getfield 60, 3) := by decide +kernel
theorem d_ContentStoreModel_goes_26 : decode prog_7_method_35_code 26 = .ok (.iload_n 2, 1) := by decide +kernel
theorem d_ContentStoreModel_goes_27 : decode prog_7_method_35_code 27 = .ok (.aload_n 0, 1) := by decide +kernel
theorem d_ContentStoreModel_goes_28 : decode prog_7_method_35_code 28 = .ok (.getfield 60, 3) := by decide +kernel
theorem d_ContentStoreModel_goes_31 : decode prog_7_method_35_code 31 = .ok (.iload_n 2, 1) := by decide +kernel
theorem d_ContentStoreModel_goes_32 : decode prog_7_method_35_code 32 = .ok (.iaload, 1) := by decide +kernel
theorem d_ContentStoreModel_goes_33 : decode prog_7_method_35_code 33 = .ok (.iload_n 1, 1) := by decide +kernel
theorem d_ContentStoreModel_goes_34 : decode prog_7_method_35_code 34 = .ok (.if_icmp .ne 7, 3) := by decide +kernel
theorem d_ContentStoreModel_goes_37 : decode prog_7_method_35_code 37 = .ok (.iconst (-1), 1) := by decide +kernel
theorem d_ContentStoreModel_goes_38 : decode prog_7_method_35_code 38 = .ok (.goto 9, 3) := by decide +kernel
theorem d_ContentStoreModel_goes_41 : decode prog_7_method_35_code 41 = .ok (.aload_n 0, 1) := by decide +kernel
theorem d_ContentStoreModel_goes_42 : decode prog_7_method_35_code 42 = .ok (.getfield 60, 3) := by decide +kernel
theorem d_ContentStoreModel_goes_45 : decode prog_7_method_35_code 45 = .ok (.iload_n 2, 1) := by decide +kernel
theorem d_ContentStoreModel_goes_46 : decode prog_7_method_35_code 46 = .ok (.iaload, 1) := by decide +kernel
theorem d_ContentStoreModel_goes_47 : decode prog_7_method_35_code 47 = .ok (.iastore, 1) := by decide +kernel
theorem d_ContentStoreModel_goes_48 : decode prog_7_method_35_code 48 = .ok (.iinc 2 1, 3) := by decide +kernel
theorem d_ContentStoreModel_goes_51 : decode prog_7_method_35_code 51 = .ok (.goto (-35), 3) := by decide +kernel
theorem d_ContentStoreModel_goes_54 : decode prog_7_method_35_code 54 = .ok (.return_, 1) := by decide +kernel
theorem d_ContentStoreModel_pack_0 : decode prog_7_method_39_code 0 = .ok (.aload_n 0, 1) := by decide +kernel
theorem d_ContentStoreModel_pack_1 : decode prog_7_method_39_code 1 = .ok (.iconst 0, 1) := by decide +kernel
theorem d_ContentStoreModel_pack_2 : decode prog_7_method_39_code 2 = .ok (.putfield 70, 3) := by decide +kernel
theorem d_ContentStoreModel_pack_5 : decode prog_7_method_39_code 5 = .ok (.iconst 0, 1) := by decide +kernel
theorem d_ContentStoreModel_pack_6 : decode prog_7_method_39_code 6 = .ok (.istore_n 1, 1) := by decide +kernel
theorem d_ContentStoreModel_pack_7 : decode prog_7_method_39_code 7 = .ok (.iconst 0, 1) := by decide +kernel
theorem d_ContentStoreModel_pack_8 : decode prog_7_method_39_code 8 = .ok (.istore_n 2, 1) := by decide +kernel
theorem d_ContentStoreModel_pack_9 : decode prog_7_method_39_code 9 = .ok (.iload_n 2, 1) := by decide +kernel
theorem d_ContentStoreModel_pack_10 : decode prog_7_method_39_code 10 = .ok (.aload_n 0, 1) := by decide +kernel
theorem d_ContentStoreModel_pack_11 : decode prog_7_method_39_code 11 = .ok (.getfield 73, 3) := by decide +kernel
theorem d_ContentStoreModel_pack_14 : decode prog_7_method_39_code 14 = .ok (.if_icmp .ge 37, 3) := by decide +kernel
theorem d_ContentStoreModel_pack_17 : decode prog_7_method_39_code 17 = .ok (.iload_n 1, 1) := by decide +kernel
theorem d_ContentStoreModel_pack_18 : decode prog_7_method_39_code 18 = .ok (.ifCond .ne 21, 3) := by decide +kernel
theorem d_ContentStoreModel_pack_21 : decode prog_7_method_39_code 21 = .ok (.aload_n 0, 1) := by decide +kernel
theorem d_ContentStoreModel_pack_22 : decode prog_7_method_39_code 22 = .ok (.getfield 36, 3) := by decide +kernel
theorem d_ContentStoreModel_pack_25 : decode prog_7_method_39_code 25 = .ok (.iload_n 2, 1) := by decide +kernel
theorem d_ContentStoreModel_pack_26 : decode prog_7_method_39_code 26 = .ok (.baload, 1) := by decide +kernel
theorem d_ContentStoreModel_pack_27 : decode prog_7_method_39_code 27 = .ok (.ifCond .eq 16, 3) := by decide +kernel
theorem d_ContentStoreModel_pack_30 : decode prog_7_method_39_code 30 = .ok (.aload_n 0, 1) := by decide +kernel
theorem d_ContentStoreModel_pack_31 : decode prog_7_method_39_code 31 = .ok (.getfield 51, 3) := by decide +kernel
theorem d_ContentStoreModel_pack_34 : decode prog_7_method_39_code 34 = .ok (.iload_n 2, 1) := by decide +kernel
theorem d_ContentStoreModel_pack_35 : decode prog_7_method_39_code 35 = .ok (.iaload, 1) := by decide +kernel
theorem d_ContentStoreModel_pack_36 : decode prog_7_method_39_code 36 = .ok (.ifCond .ge 7, 3) := by decide +kernel
theorem d_ContentStoreModel_pack_39 : decode prog_7_method_39_code 39 = .ok (.iconst 1, 1) := by decide +kernel
theorem d_ContentStoreModel_pack_40 : decode prog_7_method_39_code 40 = .ok (.goto 4, 3) := by decide +kernel
theorem d_ContentStoreModel_pack_43 : decode prog_7_method_39_code 43 = .ok (.iconst 0, 1) := by decide +kernel
theorem d_ContentStoreModel_pack_44 : decode prog_7_method_39_code 44 = .ok (.istore_n 1, 1) := by decide +kernel
theorem d_ContentStoreModel_pack_45 : decode prog_7_method_39_code 45 = .ok (.iinc 2 1, 3) := by decide +kernel
theorem d_ContentStoreModel_pack_48 : decode prog_7_method_39_code 48 = .ok (.goto (-39), 3) := by decide +kernel
theorem d_ContentStoreModel_pack_51 : decode prog_7_method_39_code 51 = .ok (.aload_n 0, 1) := by decide +kernel
theorem d_ContentStoreModel_pack_52 : decode prog_7_method_39_code 52 = .ok (.getfield 159, 3) := by decide +kernel
theorem d_ContentStoreModel_pack_55 : decode prog_7_method_39_code 55 = .ok (.bipush 12, 2) := by decide +kernel
theorem d_ContentStoreModel_pack_57 : decode prog_7_method_39_code 57 = .ok (.if_icmp .eq 7, 3) := by decide +kernel
theorem d_ContentStoreModel_pack_60 : decode prog_7_method_39_code 60 = .ok (.iload_n 1, 1) := by decide +kernel
theorem d_ContentStoreModel_pack_61 : decode prog_7_method_39_code 61 = .ok (.ifCond .ne 5, 3) := by decide +kernel
theorem d_ContentStoreModel_pack_64 : decode prog_7_method_39_code 64 = .ok (.iconst (-1), 1) := by decide +kernel
theorem d_ContentStoreModel_pack_65 : decode prog_7_method_39_code 65 = .ok (.ireturn, 1) := by decide +kernel
theorem d_ContentStoreModel_pack_66 : decode prog_7_method_39_code 66 = .ok (.iconst 0, 1) := by decide +kernel
theorem d_ContentStoreModel_pack_67 : decode prog_7_method_39_code 67 = .ok (.istore_n 2, 1) := by decide +kernel
theorem d_ContentStoreModel_pack_68 : decode prog_7_method_39_code 68 = .ok (.iload_n 2, 1) := by decide +kernel
theorem d_ContentStoreModel_pack_69 : decode prog_7_method_39_code 69 = .ok (.aload_n 0, 1) := by decide +kernel
theorem d_ContentStoreModel_pack_70 : decode prog_7_method_39_code 70 = .ok (.getfield 73, 3) := by decide +kernel
theorem d_ContentStoreModel_pack_73 : decode prog_7_method_39_code 73 = .ok (.if_icmp .ge 37, 3) := by decide +kernel
theorem d_ContentStoreModel_pack_76 : decode prog_7_method_39_code 76 = .ok (.aload_n 0, 1) := by decide +kernel
theorem d_ContentStoreModel_pack_77 : decode prog_7_method_39_code 77 = .ok (.getfield 36, 3) := by decide +kernel
theorem d_ContentStoreModel_pack_80 : decode prog_7_method_39_code 80 = .ok (.iload_n 2, 1) := by decide +kernel
theorem d_ContentStoreModel_pack_81 : decode prog_7_method_39_code 81 = .ok (.baload, 1) := by decide +kernel
theorem d_ContentStoreModel_pack_82 : decode prog_7_method_39_code 82 = .ok (.ifCond .eq 22, 3) := by decide +kernel
theorem d_ContentStoreModel_pack_85 : decode prog_7_method_39_code 85 = .ok (.aload_n 0, 1) := by decide +kernel
theorem d_ContentStoreModel_pack_86 : decode prog_7_method_39_code 86 = .ok (.getfield 51, 3) := by decide +kernel
theorem d_ContentStoreModel_pack_89 : decode prog_7_method_39_code 89 = .ok (.iload_n 2, 1) := by decide +kernel
theorem d_ContentStoreModel_pack_90 : decode prog_7_method_39_code 90 = .ok (.iaload, 1) := by decide +kernel
theorem d_ContentStoreModel_pack_91 : decode prog_7_method_39_code 91 = .ok (.ifCond .ge 13, 3) := by decide +kernel
theorem d_ContentStoreModel_pack_94 : decode prog_7_method_39_code 94 = .ok (.aload_n 0, 1) := by decide +kernel
theorem d_ContentStoreModel_pack_95 : decode prog_7_method_39_code 95 = .ok (.getfield 51, 3) := by decide +kernel
theorem d_ContentStoreModel_pack_98 : decode prog_7_method_39_code 98 = .ok (.iload_n 2, 1) := by decide +kernel
theorem d_ContentStoreModel_pack_99 : decode prog_7_method_39_code 99 = .ok (.aload_n 0, 1) := by decide +kernel
theorem d_ContentStoreModel_pack_100 : decode prog_7_method_39_code 100 = .ok (.getfield 159, 3) := by decide +kernel
theorem d_ContentStoreModel_pack_103 : decode prog_7_method_39_code 103 = .ok (.iastore, 1) := by decide +kernel
theorem d_ContentStoreModel_pack_104 : decode prog_7_method_39_code 104 = .ok (.iinc 2 1, 3) := by decide +kernel
theorem d_ContentStoreModel_pack_107 : decode prog_7_method_39_code 107 = .ok (.goto (-39), 3) := by decide +kernel
theorem d_ContentStoreModel_pack_110 : decode prog_7_method_39_code 110 = .ok (.aload_n 0, 1) := by decide +kernel
theorem d_ContentStoreModel_pack_111 : decode prog_7_method_39_code 111 = .ok (.dup, 1) := by decide +kernel
theorem d_ContentStoreModel_pack_112 : decode prog_7_method_39_code 112 = .ok (.getfield 159, 3) := by decide +kernel
theorem d_ContentStoreModel_pack_115 : decode prog_7_method_39_code 115 = .ok (.iconst 1, 1) := by decide +kernel
theorem d_ContentStoreModel_pack_116 : decode prog_7_method_39_code 116 = .ok (.iadd, 1) := by decide +kernel
theorem d_ContentStoreModel_pack_117 : decode prog_7_method_39_code 117 = .ok (.putfield 159, 3) := by decide +kernel
theorem d_ContentStoreModel_pack_120 : decode prog_7_method_39_code 120 = .ok (.aload_n 0, 1) := by decide +kernel
theorem d_ContentStoreModel_pack_121 : decode prog_7_method_39_code 121 = .ok (.getfield 159, 3) := by decide +kernel
theorem d_ContentStoreModel_pack_124 : decode prog_7_method_39_code 124 = .ok (.iconst 1, 1) := by decide +kernel
theorem d_ContentStoreModel_pack_125 : decode prog_7_method_39_code 125 = .ok (.isub, 1) := by decide +kernel
theorem d_ContentStoreModel_pack_126 : decode prog_7_method_39_code 126 = .ok (.ireturn, 1) := by decide +kernel
theorem d_ContentStoreModel_cut_0 : decode prog_7_method_40_code 0 = .ok (.aload_n 0, 1) := by decide +kernel
theorem d_ContentStoreModel_cut_1 : decode prog_7_method_40_code 1 = .ok (.iconst 0, 1) := by decide +kernel
theorem d_ContentStoreModel_cut_2 : decode prog_7_method_40_code 2 = .ok (.putfield 70, 3) := by decide +kernel
theorem d_ContentStoreModel_cut_5 : decode prog_7_method_40_code 5 = .ok (.iload_n 1, 1) := by decide +kernel
theorem d_ContentStoreModel_cut_6 : decode prog_7_method_40_code 6 = .ok (.iconst 0, 1) := by decide +kernel
theorem d_ContentStoreModel_cut_7 : decode prog_7_method_40_code 7 = .ok (.aload_n 0, 1) := by decide +kernel
theorem d_ContentStoreModel_cut_8 : decode prog_7_method_40_code 8 = .ok (.getfield 159, 3) := by decide +kernel
theorem d_ContentStoreModel_cut_11 : decode prog_7_method_40_code 11 = .ok (.iconst 1, 1) := by decide +kernel
theorem d_ContentStoreModel_cut_12 : decode prog_7_method_40_code 12 = .ok (.isub, 1) := by decide +kernel
theorem d_ContentStoreModel_cut_13 : decode prog_7_method_40_code 13 = .ok (.invokestatic 76, 3) := by decide +kernel
theorem d_ContentStoreModel_cut_16 : decode prog_7_method_40_code 16 = .ok (.ifCond .eq 7, 3) := by decide +kernel
theorem d_ContentStoreModel_cut_19 : decode prog_7_method_40_code 19 = .ok (.iload_n 2, 1) := by decide +kernel
theorem d_ContentStoreModel_cut_20 : decode prog_7_method_40_code 20 = .ok (.ifCond .ge 5, 3) := by decide +kernel
theorem d_ContentStoreModel_cut_23 : decode prog_7_method_40_code 23 = .ok (.iconst (-1), 1) := by decide +kernel
theorem d_ContentStoreModel_cut_24 : decode prog_7_method_40_code 24 = .ok (.ireturn, 1) := by decide +kernel
theorem d_ContentStoreModel_cut_25 : decode prog_7_method_40_code 25 = .ok (.iconst 0, 1) := by decide +kernel
theorem d_ContentStoreModel_cut_26 : decode prog_7_method_40_code 26 = .ok (.istore_n 3, 1) := by decide +kernel
theorem d_ContentStoreModel_cut_27 : decode prog_7_method_40_code 27 = .ok (.iconst 0, 1) := by decide +kernel
theorem d_ContentStoreModel_cut_28 : decode prog_7_method_40_code 28 = .ok (.istore 4, 2) := by decide +kernel
theorem d_ContentStoreModel_cut_30 : decode prog_7_method_40_code 30 = .ok (.iconst 0, 1) := by decide +kernel
theorem d_ContentStoreModel_cut_31 : decode prog_7_method_40_code 31 = .ok (.istore 5, 2) := by decide +kernel
theorem d_ContentStoreModel_cut_33 : decode prog_7_method_40_code 33 = .ok (.iload 5, 2) := by decide +kernel
theorem d_ContentStoreModel_cut_35 : decode prog_7_method_40_code 35 = .ok (.aload_n 0, 1) := by decide +kernel
theorem d_ContentStoreModel_cut_36 : decode prog_7_method_40_code 36 = .ok (.getfield 73, 3) := by decide +kernel
theorem d_ContentStoreModel_cut_39 : decode prog_7_method_40_code 39 = .ok (.if_icmp .ge 50, 3) := by decide +kernel
theorem d_ContentStoreModel_cut_42 : decode prog_7_method_40_code 42 = .ok (.aload_n 0, 1) := by decide +kernel
theorem d_ContentStoreModel_cut_43 : decode prog_7_method_40_code 43 = .ok (.getfield 51, 3) := by decide +kernel
theorem d_ContentStoreModel_cut_46 : decode prog_7_method_40_code 46 = .ok (.iload 5, 2) := by decide +kernel
theorem d_ContentStoreModel_cut_48 : decode prog_7_method_40_code 48 = .ok (.iaload, 1) := by decide +kernel
theorem d_ContentStoreModel_cut_49 : decode prog_7_method_40_code 49 = .ok (.iload_n 1, 1) := by decide +kernel
theorem d_ContentStoreModel_cut_50 : decode prog_7_method_40_code 50 = .ok (.if_icmp .eq 6, 3) := by decide +kernel
theorem d_ContentStoreModel_cut_53 : decode prog_7_method_40_code 53 = .ok (.goto 30, 3) := by decide +kernel
theorem d_ContentStoreModel_cut_56 : decode prog_7_method_40_code 56 = .ok (.iload_n 3, 1) := by decide +kernel
theorem d_ContentStoreModel_cut_57 : decode prog_7_method_40_code 57 = .ok (.aload_n 0, 1) := by decide +kernel
theorem d_ContentStoreModel_cut_58 : decode prog_7_method_40_code 58 = .ok (.getfield 39, 3) := by decide +kernel
theorem d_ContentStoreModel_cut_61 : decode prog_7_method_40_code 61 = .ok (.iload 5, 2) := by decide +kernel
theorem d_ContentStoreModel_cut_63 : decode prog_7_method_40_code 63 = .ok (.iaload, 1) := by decide +kernel
theorem d_ContentStoreModel_cut_64 : decode prog_7_method_40_code 64 = .ok (.iadd, 1) := by decide +kernel
theorem d_ContentStoreModel_cut_65 : decode prog_7_method_40_code 65 = .ok (.istore_n 3, 1) := by decide +kernel
theorem d_ContentStoreModel_cut_66 : decode prog_7_method_40_code 66 = .ok (.iload_n 3, 1) := by decide +kernel
theorem d_ContentStoreModel_cut_67 : decode prog_7_method_40_code 67 = .ok (.iload_n 2, 1) := by decide +kernel
theorem d_ContentStoreModel_cut_68 : decode prog_7_method_40_code 68 = .ok (.if_icmp .gt 6, 3) := by decide +kernel
theorem d_ContentStoreModel_cut_71 : decode prog_7_method_40_code 71 = .ok (.goto 12, 3) := by decide +kernel
theorem d_ContentStoreModel_cut_74 : decode prog_7_method_40_code 74 = .ok (.aload_n 0, 1) := by decide +kernel
theorem d_ContentStoreModel_cut_75 : decode prog_7_method_40_code 75 = .ok (.iload 5, 2) := by decide +kernel
theorem d_ContentStoreModel_cut_77 : decode prog_7_method_40_code 77 = .ok (.invokevirtual 155, 3) := by decide +kernel
theorem d_ContentStoreModel_cut_80 : decode prog_7_method_40_code 80 = .ok (.iinc 4 1, 3) := by decide +kernel
theorem d_ContentStoreModel_cut_83 : decode prog_7_method_40_code 83 = .ok (.iinc 5 1, 3) := by decide +kernel
theorem d_ContentStoreModel_cut_86 : decode prog_7_method_40_code 86 = .ok (.goto (-53), 3) := by decide +kernel
theorem d_ContentStoreModel_cut_89 : decode prog_7_method_40_code 89 = .ok (.aload_n 0, 1) := by decide +kernel
theorem d_ContentStoreModel_cut_90 : decode prog_7_method_40_code 90 = .ok (.invokevirtual 152, 3) := by decide +kernel
theorem d_ContentStoreModel_cut_93 : decode prog_7_method_40_code 93 = .ok (.iload 4, 2) := by decide +kernel
theorem d_ContentStoreModel_cut_95 : decode prog_7_method_40_code 95 = .ok (.ireturn, 1) := by decide +kernel
theorem d_ContentStoreModel_packOf_0 : decode prog_7_method_41_code 0 = .ok (.aload_n 0, 1) := by decide +kernel
theorem d_ContentStoreModel_packOf_1 : decode prog_7_method_41_code 1 = .ok (.iconst 0, 1) := by decide +kernel
theorem d_ContentStoreModel_packOf_2 : decode prog_7_method_41_code 2 = .ok (.putfield 70, 3) := by decide +kernel
theorem d_ContentStoreModel_packOf_5 : decode prog_7_method_41_code 5 = .ok (.aload_n 0, 1) := by decide +kernel
theorem d_ContentStoreModel_packOf_6 : decode prog_7_method_41_code 6 = .ok (.iload_n 1, 1) := by decide +kernel
theorem d_ContentStoreModel_packOf_7 : decode prog_7_method_41_code 7 = .ok (.invokevirtual 149, 3) := by decide +kernel
theorem d_ContentStoreModel_packOf_10 : decode prog_7_method_41_code 10 = .ok (.ifCond .eq 12, 3) := by decide +kernel
theorem d_ContentStoreModel_packOf_13 : decode prog_7_method_41_code 13 = .ok (.aload_n 0, 1) := by decide +kernel
theorem d_ContentStoreModel_packOf_14 : decode prog_7_method_41_code 14 = .ok (.getfield 51, 3) := by decide +kernel
theorem d_ContentStoreModel_packOf_17 : decode prog_7_method_41_code 17 = .ok (.iload_n 1, 1) := by decide +kernel
theorem d_ContentStoreModel_packOf_18 : decode prog_7_method_41_code 18 = .ok (.iaload, 1) := by decide +kernel
theorem d_ContentStoreModel_packOf_19 : decode prog_7_method_41_code 19 = .ok (.goto 4, 3) := by decide +kernel
theorem d_ContentStoreModel_packOf_22 : decode prog_7_method_41_code 22 = .ok (.iconst (-1), 1) := by decide +kernel
theorem d_ContentStoreModel_packOf_23 : decode prog_7_method_41_code 23 = .ok (.ireturn, 1) := by decide +kernel
theorem d_ContentStoreModel_count_0 : decode prog_7_method_42_code 0 = .ok (.aload_n 0, 1) := by decide +kernel
theorem d_ContentStoreModel_count_1 : decode prog_7_method_42_code 1 = .ok (.iconst 0, 1) := by decide +kernel
theorem d_ContentStoreModel_count_2 : decode prog_7_method_42_code 2 = .ok (.putfield 70, 3) := by decide +kernel
theorem d_ContentStoreModel_count_5 : decode prog_7_method_42_code 5 = .ok (.iconst 0, 1) := by decide +kernel
theorem d_ContentStoreModel_count_6 : decode prog_7_method_42_code 6 = .ok (.istore_n 2, 1) := by decide +kernel
theorem d_ContentStoreModel_count_7 : decode prog_7_method_42_code 7 = .ok (.iload_n 1, 1) := by decide +kernel
theorem d_ContentStoreModel_count_8 : decode prog_7_method_42_code 8 = .ok (.ifCond .ne 37, 3) := by decide +kernel
theorem d_ContentStoreModel_count_11 : decode prog_7_method_42_code 11 = .ok (.iconst 0, 1) := by decide +kernel
theorem d_ContentStoreModel_count_12 : decode prog_7_method_42_code 12 = .ok (.istore_n 3, 1) := by decide +kernel
theorem d_ContentStoreModel_count_13 : decode prog_7_method_42_code 13 = .ok (.iload_n 3, 1) := by decide +kernel
theorem d_ContentStoreModel_count_14 : decode prog_7_method_42_code 14 = .ok (.sipush 400, 3) := by decide +kernel
theorem d_ContentStoreModel_count_17 : decode prog_7_method_42_code 17 = .ok (.if_icmp .ge 26, 3) := by decide +kernel
theorem d_ContentStoreModel_count_20 : decode prog_7_method_42_code 20 = .ok (.iload_n 2, 1) := by decide +kernel
theorem d_ContentStoreModel_count_21 : decode prog_7_method_42_code 21 = .ok (.aload_n 0, 1) := by decide +kernel
theorem d_ContentStoreModel_count_22 : decode prog_7_method_42_code 22 = .ok (.getfield 27, 3) := by decide +kernel
theorem d_ContentStoreModel_count_25 : decode prog_7_method_42_code 25 = .ok (.iload_n 3, 1) := by decide +kernel
theorem d_ContentStoreModel_count_26 : decode prog_7_method_42_code 26 = .ok (.iaload, 1) := by decide +kernel
theorem d_ContentStoreModel_count_27 : decode prog_7_method_42_code 27 = .ok (.ifCond .le 7, 3) := by decide +kernel
theorem d_ContentStoreModel_count_30 : decode prog_7_method_42_code 30 = .ok (.iconst 1, 1) := by decide +kernel
theorem d_ContentStoreModel_count_31 : decode prog_7_method_42_code 31 = .ok (.goto 4, 3) := by decide +kernel
theorem d_ContentStoreModel_count_34 : decode prog_7_method_42_code 34 = .ok (.iconst 0, 1) := by decide +kernel
theorem d_ContentStoreModel_count_35 : decode prog_7_method_42_code 35 = .ok (.iadd, 1) := by decide +kernel
theorem d_ContentStoreModel_count_36 : decode prog_7_method_42_code 36 = .ok (.istore_n 2, 1) := by decide +kernel
theorem d_ContentStoreModel_count_37 : decode prog_7_method_42_code 37 = .ok (.iinc 3 1, 3) := by decide +kernel
theorem d_ContentStoreModel_count_40 : decode prog_7_method_42_code 40 = .ok (.goto (-27), 3) := by decide +kernel
theorem d_ContentStoreModel_count_43 : decode prog_7_method_42_code 43 = .ok (.iload_n 2, 1) := by decide +kernel
theorem d_ContentStoreModel_count_44 : decode prog_7_method_42_code 44 = .ok (.ireturn, 1) := by decide +kernel
theorem d_ContentStoreModel_count_45 : decode prog_7_method_42_code 45 = .ok (.iload_n 1, 1) := by decide +kernel
theorem d_ContentStoreModel_count_46 : decode prog_7_method_42_code 46 = .ok (.iconst 1, 1) := by decide +kernel
theorem d_ContentStoreModel_count_47 : decode prog_7_method_42_code 47 = .ok (.if_icmp .ne 8, 3) := by decide +kernel
theorem d_ContentStoreModel_count_50 : decode prog_7_method_42_code 50 = .ok (.aload_n 0, 1) := by decide +kernel
theorem d_ContentStoreModel_count_51 : decode prog_7_method_42_code 51 = .ok (.invokevirtual 94, 3) := by decide +kernel
theorem d_ContentStoreModel_count_54 : decode prog_7_method_42_code 54 = .ok (.ireturn, 1) := by decide +kernel
theorem d_ContentStoreModel_count_55 : decode prog_7_method_42_code 55 = .ok (.iload_n 1, 1) := by decide +kernel
theorem d_ContentStoreModel_count_56 : decode prog_7_method_42_code 56 = .ok (.iconst 2, 1) := by decide +kernel
theorem d_ContentStoreModel_count_57 : decode prog_7_method_42_code 57 = .ok (.if_icmp .ne 38, 3) := by decide +kernel
theorem d_ContentStoreModel_count_60 : decode prog_7_method_42_code 60 = .ok (.iconst 0, 1) := by decide +kernel
theorem d_ContentStoreModel_count_61 : decode prog_7_method_42_code 61 = .ok (.istore_n 3, 1) := by decide +kernel
theorem d_ContentStoreModel_count_62 : decode prog_7_method_42_code 62 = .ok (.iload_n 3, 1) := by decide +kernel
theorem d_ContentStoreModel_count_63 : decode prog_7_method_42_code 63 = .ok (.aload_n 0, 1) := by decide +kernel
theorem d_ContentStoreModel_count_64 : decode prog_7_method_42_code 64 = .ok (.getfield 73, 3) := by decide +kernel
theorem d_ContentStoreModel_count_67 : decode prog_7_method_42_code 67 = .ok (.if_icmp .ge 26, 3) := by decide +kernel
theorem d_ContentStoreModel_count_70 : decode prog_7_method_42_code 70 = .ok (.iload_n 2, 1) := by decide +kernel
theorem d_ContentStoreModel_count_71 : decode prog_7_method_42_code 71 = .ok (.aload_n 0, 1) := by decide +kernel
theorem d_ContentStoreModel_count_72 : decode prog_7_method_42_code 72 = .ok (.getfield 36, 3) := by decide +kernel
theorem d_ContentStoreModel_count_75 : decode prog_7_method_42_code 75 = .ok (.iload_n 3, 1) := by decide +kernel
theorem d_ContentStoreModel_count_76 : decode prog_7_method_42_code 76 = .ok (.baload, 1) := by decide +kernel
theorem d_ContentStoreModel_count_77 : decode prog_7_method_42_code 77 = .ok (.ifCond .eq 7, 3) := by decide +kernel
theorem d_ContentStoreModel_count_80 : decode prog_7_method_42_code 80 = .ok (.iconst 1, 1) := by decide +kernel
theorem d_ContentStoreModel_count_81 : decode prog_7_method_42_code 81 = .ok (.goto 4, 3) := by decide +kernel
theorem d_ContentStoreModel_count_84 : decode prog_7_method_42_code 84 = .ok (.iconst 0, 1) := by decide +kernel
theorem d_ContentStoreModel_count_85 : decode prog_7_method_42_code 85 = .ok (.iadd, 1) := by decide +kernel
theorem d_ContentStoreModel_count_86 : decode prog_7_method_42_code 86 = .ok (.istore_n 2, 1) := by decide +kernel
theorem d_ContentStoreModel_count_87 : decode prog_7_method_42_code 87 = .ok (.iinc 3 1, 3) := by decide +kernel
theorem d_ContentStoreModel_count_90 : decode prog_7_method_42_code 90 = .ok (.goto (-28), 3) := by decide +kernel
theorem d_ContentStoreModel_count_93 : decode prog_7_method_42_code 93 = .ok (.iload_n 2, 1) := by decide +kernel
theorem d_ContentStoreModel_count_94 : decode prog_7_method_42_code 94 = .ok (.ireturn, 1) := by decide +kernel
theorem d_ContentStoreModel_count_95 : decode prog_7_method_42_code 95 = .ok (.iload_n 1, 1) := by decide +kernel
theorem d_ContentStoreModel_count_96 : decode prog_7_method_42_code 96 = .ok (.iconst 2, 1) := by decide +kernel
theorem d_ContentStoreModel_count_97 : decode prog_7_method_42_code 97 = .ok (.if_icmp .le 42, 3) := by decide +kernel
theorem d_ContentStoreModel_count_100 : decode prog_7_method_42_code 100 = .ok (.aload_n 0, 1) := by decide +kernel
theorem d_ContentStoreModel_count_101 : decode prog_7_method_42_code 101 = .ok (.iload_n 1, 1) := by decide +kernel
theorem d_ContentStoreModel_count_102 : decode prog_7_method_42_code 102 = .ok (.iconst 3, 1) := by decide +kernel
theorem d_ContentStoreModel_count_103 : decode prog_7_method_42_code 103 = .ok (.isub, 1) := by decide +kernel
theorem d_ContentStoreModel_count_104 : decode prog_7_method_42_code 104 = .ok (.invokevirtual 149, 3) := by decide +kernel
theorem d_ContentStoreModel_count_107 : decode prog_7_method_42_code 107 = .ok (.ifCond .eq 32, 3) := by decide +kernel
theorem d_ContentStoreModel_count_110 : decode prog_7_method_42_code 110 = .ok (.aload_n 0, 1) := by decide +kernel
theorem d_ContentStoreModel_count_111 : decode prog_7_method_42_code 111 = .ok (.getfield 39, 3) := by decide +kernel
theorem d_ContentStoreModel_count_114 : decode prog_7_method_42_code 114 = .ok (.iload_n 1, 1) := by decide +kernel
theorem d_ContentStoreModel_count_115 : decode prog_7_method_42_code 115 = .ok (.iconst 3, 1) := by decide +kernel
theorem d_ContentStoreModel_count_116 : decode prog_7_method_42_code 116 = .ok (.isub, 1) := by decide +kernel
theorem d_ContentStoreModel_count_117 : decode prog_7_method_42_code 117 = .ok (.iaload, 1) := by decide +kernel
theorem d_ContentStoreModel_count_118 : decode prog_7_method_42_code 118 = .ok (.ifCond .le 21, 3) := by decide +kernel
theorem d_ContentStoreModel_count_121 : decode prog_7_method_42_code 121 = .ok (.aload_n 0, 1) := by decide +kernel
theorem d_ContentStoreModel_count_122 : decode prog_7_method_42_code 122 = .ok (.aload_n 0, 1) := by decide +kernel
theorem d_ContentStoreModel_count_123 : decode prog_7_method_42_code 123 = .ok (.getfield 42, 3) := by decide +kernel
theorem d_ContentStoreModel_count_126 : decode prog_7_method_42_code 126 = .ok (.bipush 6, 2) := by decide +kernel
theorem d_ContentStoreModel_count_128 : decode prog_7_method_42_code 128 = .ok (.iload_n 1, 1) := by decide +kernel
theorem d_ContentStoreModel_count_129 : decode prog_7_method_42_code 129 = .ok (.iconst 3, 1) := by decide +kernel
theorem d_ContentStoreModel_count_130 : decode prog_7_method_42_code 130 = .ok (.isub, 1) := by decide +kernel
theorem d_ContentStoreModel_count_131 : decode prog_7_method_42_code 131 = .ok (.imul, 1) := by decide +kernel
theorem d_ContentStoreModel_count_132 : decode prog_7_method_42_code 132 = .ok (.iaload, 1) := by decide +kernel
theorem d_ContentStoreModel_count_133 : decode prog_7_method_42_code 133 = .ok (.invokevirtual 143, 3) := by decide +kernel
theorem d_ContentStoreModel_count_136 : decode prog_7_method_42_code 136 = .ok (.goto 4, 3) := by decide +kernel
theorem d_ContentStoreModel_count_139 : decode prog_7_method_42_code 139 = .ok (.iconst (-1), 1) := by decide +kernel
theorem d_ContentStoreModel_count_140 : decode prog_7_method_42_code 140 = .ok (.ireturn, 1) := by decide +kernel
