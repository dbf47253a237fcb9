theorem dX9_would_21 : decode cX9_would 21 = .ok (.ireturn, 1) := by decide +kernel
theorem dX9_would_22 : decode cX9_would 22 = .ok (.aload_n 0, 1) := by decide +kernel
theorem dX9_would_23 : decode cX9_would 23 = .ok (.getfield 7, 3) := by decide +kernel
theorem dX9_would_26 : decode cX9_would 26 = .ok (.aload_n 0, 1) := by decide +kernel
theorem dX9_would_27 : decode cX9_would 27 = .ok (.getfield 19, 3) := by decide +kernel
theorem dX9_would_30 : decode cX9_would 30 = .ok (.invokestatic 126, 3) := by decide +kernel
theorem dX9_would_33 : decode cX9_would 33 = .ok (.aload_n 0, 1) := by decide +kernel
theorem dX9_would_34 : decode cX9_would 34 = .ok (.getfield 7, 3) := by decide +kernel
theorem dX9_would_37 : decode cX9_would 37 = .ok (.iconst 5, 1) := by decide +kernel
theorem dX9_would_38 : decode cX9_would 38 = .ok (.iload_n 1, 1) := by decide +kernel
theorem dX9_would_39 : decode cX9_would 39 = .ok (.iastore, 1) := by decide +kernel
theorem dX9_would_40 : decode cX9_would 40 = .ok (.iconst 0, 1) := by decide +kernel
theorem dX9_would_41 : decode cX9_would 41 = .ok (.istore_n 3, 1) := by decide +kernel
theorem dX9_would_42 : decode cX9_would 42 = .ok (.iload_n 3, 1) := by decide +kernel
theorem dX9_would_43 : decode cX9_would 43 = .ok (.iload_n 2, 1) := by decide +kernel
theorem dX9_would_44 : decode cX9_would 44 = .ok (.if_icmp .ge 13, 3) := by decide +kernel
theorem dX9_would_47 : decode cX9_would 47 = .ok (.aload_n 0, 1) := by decide +kernel
theorem dX9_would_48 : decode cX9_would 48 = .ok (.invokevirtual 123, 3) := by decide +kernel
theorem dX9_would_51 : decode cX9_would 51 = .ok (.iinc 3 1, 3) := by decide +kernel
theorem dX9_would_54 : decode cX9_would 54 = .ok (.goto (-12), 3) := by decide +kernel
theorem dX9_would_57 : decode cX9_would 57 = .ok (.aload_n 0, 1) := by decide +kernel
theorem dX9_would_58 : decode cX9_would 58 = .ok (.iload_n 1, 1) := by decide +kernel
theorem dX9_would_59 : decode cX9_would 59 = .ok (.invokevirtual 72, 3) := by decide +kernel
theorem dX9_would_62 : decode cX9_would 62 = .ok (.invokestatic 81, 3) := by decide +kernel
theorem dX9_would_65 : decode cX9_would 65 = .ok (.istore_n 3, 1) := by decide +kernel
theorem dX9_would_66 : decode cX9_would 66 = .ok (.aload_n 0, 1) := by decide +kernel
theorem dX9_would_67 : decode cX9_would 67 = .ok (.getfield 19, 3) := by decide +kernel
theorem dX9_would_70 : decode cX9_would 70 = .ok (.aload_n 0, 1) := by decide +kernel
theorem dX9_would_71 : decode cX9_would 71 = .ok (.getfield 7, 3) := by decide +kernel
theorem dX9_would_74 : decode cX9_would 74 = .ok (.invokestatic 126, 3) := by decide +kernel
theorem dX9_would_77 : decode cX9_would 77 = .ok (.iload_n 3, 1) := by decide +kernel
theorem dX9_would_78 : decode cX9_would 78 = .ok (.ireturn, 1) := by decide +kernel
theorem dX9_bestSale_0 : decode cX9_bestSale 0 = .ok (.ldc 71, 2) := by decide +kernel
theorem dX9_bestSale_2 : decode cX9_bestSale 2 = .ok (.istore_n 1, 1) := by decide +kernel
theorem dX9_bestSale_3 : decode cX9_bestSale 3 = .ok (.iconst (-1), 1) := by decide +kernel
theorem dX9_bestSale_4 : decode cX9_bestSale 4 = .ok (.istore_n 2, 1) := by decide +kernel
theorem dX9_bestSale_5 : decode cX9_bestSale 5 = .ok (.iconst 0, 1) := by decide +kernel
theorem dX9_bestSale_6 : decode cX9_bestSale 6 = .ok (.istore_n 3, 1) := by decide +kernel
theorem dX9_bestSale_7 : decode cX9_bestSale 7 = .ok (.iload_n 3, 1) := by decide +kernel
theorem dX9_bestSale_8 : decode cX9_bestSale 8 = .ok (.aload_n 0, 1) := by decide +kernel
theorem dX9_bestSale_9 : decode cX9_bestSale 9 = .ok (.getfield 7, 3) := by decide +kernel
theorem dX9_bestSale_12 : decode cX9_bestSale 12 = .ok (.iconst 2, 1) := by decide +kernel
theorem dX9_bestSale_13 : decode cX9_bestSale 13 = .ok (.iaload, 1) := by decide +kernel
theorem dX9_bestSale_14 : decode cX9_bestSale 14 = .ok (.if_icmp .ge 91, 3) := by decide +kernel
theorem dX9_bestSale_17 : decode cX9_bestSale 17 = .ok (.iconst 0, 1) := by decide +kernel
theorem dX9_bestSale_18 : decode cX9_bestSale 18 = .ok (.istore 4, 2) := by decide +kernel
theorem dX9_bestSale_20 : decode cX9_bestSale 20 = .ok (.iload 4, 2) := by decide +kernel
theorem dX9_bestSale_22 : decode cX9_bestSale 22 = .ok (.aload_n 0, 1) := by decide +kernel
theorem dX9_bestSale_23 : decode cX9_bestSale 23 = .ok (.getfield 7, 3) := by decide +kernel
theorem dX9_bestSale_26 : decode cX9_bestSale 26 = .ok (.iconst 1, 1) := by decide +kernel
theorem dX9_bestSale_27 : decode cX9_bestSale 27 = .ok (.iaload, 1) := by decide +kernel
theorem dX9_bestSale_28 : decode cX9_bestSale 28 = .ok (.if_icmp .ge 71, 3) := by decide +kernel
theorem dX9_bestSale_31 : decode cX9_bestSale 31 = .ok (.aload_n 0, 1) := by decide +kernel
theorem dX9_bestSale_32 : decode cX9_bestSale 32 = .ok (.iload_n 3, 1) := by decide +kernel
theorem dX9_bestSale_33 : decode cX9_bestSale 33 = .ok (.iload 4, 2) := by decide +kernel
theorem dX9_bestSale_35 : decode cX9_bestSale 35 = .ok (.invokevirtual 113, 3) := by decide +kernel
theorem dX9_bestSale_38 : decode cX9_bestSale 38 = .ok (.ifCond .eq 18, 3) := by decide +kernel
theorem dX9_bestSale_41 : decode cX9_bestSale 41 = .ok (.aload_n 0, 1) := by decide +kernel
theorem dX9_bestSale_42 : decode cX9_bestSale 42 = .ok (.iload_n 3, 1) := by decide +kernel
theorem dX9_bestSale_43 : decode cX9_bestSale 43 = .ok (.iload 4, 2) := by decide +kernel
theorem dX9_bestSale_45 : decode cX9_bestSale 45 = .ok (.invokevirtual 107, 3) := by decide +kernel
theorem dX9_bestSale_48 : decode cX9_bestSale 48 = .ok (.iload_n 2, 1) := by decide +kernel
theorem dX9_bestSale_49 : decode cX9_bestSale 49 = .ok (.if_icmp .le 7, 3) := by decide +kernel
theorem dX9_bestSale_52 : decode cX9_bestSale 52 = .ok (.iconst 1, 1) := by decide +kernel
theorem dX9_bestSale_53 : decode cX9_bestSale 53 = .ok (.goto 4, 3) := by decide +kernel
theorem dX9_bestSale_56 : decode cX9_bestSale 56 = .ok (.iconst 0, 1) := by decide +kernel
theorem dX9_bestSale_57 : decode cX9_bestSale 57 = .ok (.istore 5, 2) := by decide +kernel
theorem dX9_bestSale_59 : decode cX9_bestSale 59 = .ok (.iload 5, 2) := by decide +kernel
theorem dX9_bestSale_61 : decode cX9_bestSale 61 = .ok (.ifCond .eq 13, 3) := by decide +kernel
theorem dX9_bestSale_64 : decode cX9_bestSale 64 = .ok (.bipush 10, 2) := by decide +kernel
theorem dX9_bestSale_66 : decode cX9_bestSale 66 = .ok (.iload_n 3, 1) := by decide +kernel
theorem dX9_bestSale_67 : decode cX9_bestSale 67 = .ok (.imul, 1) := by decide +kernel
theorem dX9_bestSale_68 : decode cX9_bestSale 68 = .ok (.iload 4, 2) := by decide +kernel
theorem dX9_bestSale_70 : decode cX9_bestSale 70 = .ok (.iadd, 1) := by decide +kernel
theorem dX9_bestSale_71 : decode cX9_bestSale 71 = .ok (.goto 4, 3) := by decide +kernel
theorem dX9_bestSale_74 : decode cX9_bestSale 74 = .ok (.iload_n 1, 1) := by decide +kernel
theorem dX9_bestSale_75 : decode cX9_bestSale 75 = .ok (.istore_n 1, 1) := by decide +kernel
theorem dX9_bestSale_76 : decode cX9_bestSale 76 = .ok (.iload 5, 2) := by decide +kernel
theorem dX9_bestSale_78 : decode cX9_bestSale 78 = .ok (.ifCond .eq 13, 3) := by decide +kernel
theorem dX9_bestSale_81 : decode cX9_bestSale 81 = .ok (.aload_n 0, 1) := by decide +kernel
theorem dX9_bestSale_82 : decode cX9_bestSale 82 = .ok (.iload_n 3, 1) := by decide +kernel
theorem dX9_bestSale_83 : decode cX9_bestSale 83 = .ok (.iload 4, 2) := by decide +kernel
theorem dX9_bestSale_85 : decode cX9_bestSale 85 = .ok (.invokevirtual 107, 3) := by decide +kernel
theorem dX9_bestSale_88 : decode cX9_bestSale 88 = .ok (.goto 4, 3) := by decide +kernel
theorem dX9_bestSale_91 : decode cX9_bestSale 91 = .ok (.iload_n 2, 1) := by decide +kernel
theorem dX9_bestSale_92 : decode cX9_bestSale 92 = .ok (.istore_n 2, 1) := by decide +kernel
theorem dX9_bestSale_93 : decode cX9_bestSale 93 = .ok (.iinc 4 1, 3) := by decide +kernel
theorem dX9_bestSale_96 : decode cX9_bestSale 96 = .ok (.goto (-76), 3) := by decide +kernel
theorem dX9_bestSale_99 : decode cX9_bestSale 99 = .ok (.iinc 3 1, 3) := by decide +kernel
theorem dX9_bestSale_102 : decode cX9_bestSale 102 = .ok (.goto (-95), 3) := by decide +kernel
theorem dX9_bestSale_105 : decode cX9_bestSale 105 = .ok (.iload_n 1, 1) := by decide +kernel
theorem dX9_bestSale_106 : decode cX9_bestSale 106 = .ok (.ireturn, 1) := by decide +kernel
theorem dX9_best_0 : decode cX9_best 0 = .ok (.iload_n 1, 1) := by decide +kernel
theorem dX9_best_1 : decode cX9_best 1 = .ok (.iconst 0, 1) := by decide +kernel
theorem dX9_best_2 : decode cX9_best 2 = .ok (.iconst 2, 1) := by decide +kernel
theorem dX9_best_3 : decode cX9_best 3 = .ok (.invokestatic 47, 3) := by decide +kernel
theorem dX9_best_6 : decode cX9_best 6 = .ok (.ifCond .ne 6, 3) := by decide +kernel
theorem dX9_best_9 : decode cX9_best 9 = .ok (.ldc 51, 2) := by decide +kernel
theorem dX9_best_11 : decode cX9_best 11 = .ok (.ireturn, 1) := by decide +kernel
theorem dX9_best_12 : decode cX9_best 12 = .ok (.aload_n 0, 1) := by decide +kernel
theorem dX9_best_13 : decode cX9_best 13 = .ok (.invokevirtual 130, 3) := by decide +kernel
theorem dX9_best_16 : decode cX9_best 16 = .ok (.istore_n 2, 1) := by decide +kernel
theorem dX9_best_17 : decode cX9_best 17 = .ok (.iload_n 2, 1) := by decide +kernel
theorem dX9_best_18 : decode cX9_best 18 = .ok (.ifCond .ge 8, 3) := by decide +kernel
theorem dX9_best_21 : decode cX9_best 21 = .ok (.ldc 71, 2) := by decide +kernel
theorem dX9_best_23 : decode cX9_best 23 = .ok (.goto 43, 3) := by decide +kernel
theorem dX9_best_26 : decode cX9_best 26 = .ok (.iload_n 1, 1) := by decide +kernel
theorem dX9_best_27 : decode cX9_best 27 = .ok (.ifCond .ne 15, 3) := by decide +kernel
theorem dX9_best_30 : decode cX9_best 30 = .ok (.aload_n 0, 1) := by decide +kernel
theorem dX9_best_31 : decode cX9_best 31 = .ok (.iload_n 2, 1) := by decide +kernel
theorem dX9_best_32 : decode cX9_best 32 = .ok (.bipush 10, 2) := by decide +kernel
theorem dX9_best_34 : decode cX9_best 34 = .ok (.idiv, 1) := by decide +kernel
theorem dX9_best_35 : decode cX9_best 35 = .ok (.iconst 0, 1) := by decide +kernel
theorem dX9_best_36 : decode cX9_best 36 = .ok (.invokevirtual 68, 3) := by decide +kernel
theorem dX9_best_39 : decode cX9_best 39 = .ok (.goto 27, 3) := by decide +kernel
theorem dX9_best_42 : decode cX9_best 42 = .ok (.iload_n 1, 1) := by decide +kernel
theorem dX9_best_43 : decode cX9_best 43 = .ok (.iconst 1, 1) := by decide +kernel
theorem dX9_best_44 : decode cX9_best 44 = .ok (.if_icmp .ne 10, 3) := by decide +kernel
theorem dX9_best_47 : decode cX9_best 47 = .ok (.iload_n 2, 1) := by decide +kernel
theorem dX9_best_48 : decode cX9_best 48 = .ok (.bipush 10, 2) := by decide +kernel
theorem dX9_best_50 : decode cX9_best 50 = .ok (.irem, 1) := by decide +kernel
theorem dX9_best_51 : decode cX9_best 51 = .ok (.goto 15, 3) := by decide +kernel
theorem dX9_best_54 : decode cX9_best 54 = .ok (.aload_n 0, 1) := by decide +kernel
theorem dX9_best_55 : decode cX9_best 55 = .ok (.iload_n 2, 1) := by decide +kernel
theorem dX9_best_56 : decode cX9_best 56 = .ok (.bipush 10, 2) := by decide +kernel
theorem dX9_best_58 : decode cX9_best 58 = .ok (.idiv, 1) := by decide +kernel
theorem dX9_best_59 : decode cX9_best 59 = .ok (.iload_n 2, 1) := by decide +kernel
theorem dX9_best_60 : decode cX9_best 60 = .ok (.bipush 10, 2) := by decide +kernel
theorem dX9_best_62 : decode cX9_best 62 = .ok (.irem, 1) := by decide +kernel
theorem dX9_best_63 : decode cX9_best 63 = .ok (.invokevirtual 107, 3) := by decide +kernel
theorem dX9_best_66 : decode cX9_best 66 = .ok (.ireturn, 1) := by decide +kernel
theorem dX9_sellAll_0 : decode cX9_sellAll 0 = .ok (.aload_n 0, 1) := by decide +kernel
theorem dX9_sellAll_1 : decode cX9_sellAll 1 = .ok (.getfield 7, 3) := by decide +kernel
theorem dX9_sellAll_4 : decode cX9_sellAll 4 = .ok (.aload_n 0, 1) := by decide +kernel
theorem dX9_sellAll_5 : decode cX9_sellAll 5 = .ok (.getfield 19, 3) := by decide +kernel
theorem dX9_sellAll_8 : decode cX9_sellAll 8 = .ok (.invokestatic 126, 3) := by decide +kernel
theorem dX9_sellAll_11 : decode cX9_sellAll 11 = .ok (.iconst 0, 1) := by decide +kernel
theorem dX9_sellAll_12 : decode cX9_sellAll 12 = .ok (.istore_n 1, 1) := by decide +kernel
theorem dX9_sellAll_13 : decode cX9_sellAll 13 = .ok (.aload_n 0, 1) := by decide +kernel
theorem dX9_sellAll_14 : decode cX9_sellAll 14 = .ok (.invokevirtual 130, 3) := by decide +kernel
theorem dX9_sellAll_17 : decode cX9_sellAll 17 = .ok (.istore_n 2, 1) := by decide +kernel
theorem dX9_sellAll_18 : decode cX9_sellAll 18 = .ok (.iload_n 2, 1) := by decide +kernel
theorem dX9_sellAll_19 : decode cX9_sellAll 19 = .ok (.ifCond .lt 26, 3) := by decide +kernel
theorem dX9_sellAll_22 : decode cX9_sellAll 22 = .ok (.iload_n 1, 1) := by decide +kernel
theorem dX9_sellAll_23 : decode cX9_sellAll 23 = .ok (.aload_n 0, 1) := by decide +kernel
theorem dX9_sellAll_24 : decode cX9_sellAll 24 = .ok (.iload_n 2, 1) := by decide +kernel
theorem dX9_sellAll_25 : decode cX9_sellAll 25 = .ok (.bipush 10, 2) := by decide +kernel
theorem dX9_sellAll_27 : decode cX9_sellAll 27 = .ok (.idiv, 1) := by decide +kernel
theorem dX9_sellAll_28 : decode cX9_sellAll 28 = .ok (.iload_n 2, 1) := by decide +kernel
theorem dX9_sellAll_29 : decode cX9_sellAll 29 = .ok (.bipush 10, 2) := by decide +kernel
theorem dX9_sellAll_31 : decode cX9_sellAll 31 = .ok (.irem, 1) := by decide +kernel
theorem dX9_sellAll_32 : decode cX9_sellAll 32 = .ok (.invokevirtual 117, 3) := by decide +kernel
theorem dX9_sellAll_35 : decode cX9_sellAll 35 = .ok (.iadd, 1) := by decide +kernel
theorem dX9_sellAll_36 : decode cX9_sellAll 36 = .ok (.istore_n 1, 1) := by decide +kernel
theorem dX9_sellAll_37 : decode cX9_sellAll 37 = .ok (.aload_n 0, 1) := by decide +kernel
theorem dX9_sellAll_38 : decode cX9_sellAll 38 = .ok (.invokevirtual 130, 3) := by decide +kernel
theorem dX9_sellAll_41 : decode cX9_sellAll 41 = .ok (.istore_n 2, 1) := by decide +kernel
theorem dX9_sellAll_42 : decode cX9_sellAll 42 = .ok (.goto (-24), 3) := by decide +kernel
theorem dX9_sellAll_45 : decode cX9_sellAll 45 = .ok (.aload_n 0, 1) := by decide +kernel
theorem dX9_sellAll_46 : decode cX9_sellAll 46 = .ok (.getfield 19, 3) := by decide +kernel
theorem dX9_sellAll_49 : decode cX9_sellAll 49 = .ok (.aload_n 0, 1) := by decide +kernel
theorem dX9_sellAll_50 : decode cX9_sellAll 50 = .ok (.getfield 7, 3) := by decide +kernel
theorem dX9_sellAll_53 : decode cX9_sellAll 53 = .ok (.invokestatic 126, 3) := by decide +kernel
theorem dX9_sellAll_56 : decode cX9_sellAll 56 = .ok (.iload_n 1, 1) := by decide +kernel
theorem dX9_sellAll_57 : decode cX9_sellAll 57 = .ok (.ireturn, 1) := by decide +kernel
theorem dX9_mean_0 : decode cX9_mean 0 = .ok (.aload_n 0, 1) := by decide +kernel
theorem dX9_mean_1 : decode cX9_mean 1 = .ok (.getfield 7, 3) := by decide +kernel
theorem dX9_mean_4 : decode cX9_mean 4 = .ok (.bipush 8, 2) := by decide +kernel
theorem dX9_mean_6 : decode cX9_mean 6 = .ok (.iaload, 1) := by decide +kernel
theorem dX9_mean_7 : decode cX9_mean 7 = .ok (.i2f, 1) := by decide +kernel
theorem dX9_mean_8 : decode cX9_mean 8 = .ok (.aload_n 0, 1) := by decide +kernel
theorem dX9_mean_9 : decode cX9_mean 9 = .ok (.getfield 7, 3) := by decide +kernel
theorem dX9_mean_12 : decode cX9_mean 12 = .ok (.bipush 7, 2) := by decide +kernel
theorem dX9_mean_14 : decode cX9_mean 14 = .ok (.iaload, 1) := by decide +kernel
theorem dX9_mean_15 : decode cX9_mean 15 = .ok (.ifCond .ne 7, 3) := by decide +kernel
theorem dX9_mean_18 : decode cX9_mean 18 = .ok (.iconst 1, 1) := by decide +kernel
theorem dX9_mean_19 : decode cX9_mean 19 = .ok (.goto 10, 3) := by decide +kernel
theorem dX9_mean_22 : decode cX9_mean 22 = .ok (.aload_n 0, 1) := by decide +kernel
theorem dX9_mean_23 : decode cX9_mean 23 = .ok (.getfield 7, 3) := by decide +kernel
theorem dX9_mean_26 : decode cX9_mean 26 = .ok (.bipush 7, 2) := by decide +kernel
theorem dX9_mean_28 : decode cX9_mean 28 = .ok (.iaload, 1) := by decide +kernel
theorem dX9_mean_29 : decode cX9_mean 29 = .ok (.i2f, 1) := by decide +kernel
theorem dX9_mean_30 : decode cX9_mean 30 = .ok (.fdiv, 1) := by decide +kernel
theorem dX9_mean_31 : decode cX9_mean 31 = .ok (.fstore_n 1, 1) := by decide +kernel
theorem dX9_mean_32 : decode cX9_mean 32 = .ok (.aload_n 0, 1) := by decide +kernel
theorem dX9_mean_33 : decode cX9_mean 33 = .ok (.getfield 7, 3) := by decide +kernel
theorem dX9_mean_36 : decode cX9_mean 36 = .ok (.bipush 7, 2) := by decide +kernel
theorem dX9_mean_38 : decode cX9_mean 38 = .ok (.iaload, 1) := by decide +kernel
theorem dX9_mean_39 : decode cX9_mean 39 = .ok (.ifCond .ne 8, 3) := by decide +kernel
theorem dX9_mean_42 : decode cX9_mean 42 = .ok (.ldc 71, 2) := by decide +kernel
theorem dX9_mean_44 : decode cX9_mean 44 = .ok (.goto 7, 3) := by decide +kernel
theorem dX9_mean_47 : decode cX9_mean 47 = .ok (.fload_n 1, 1) := by decide +kernel
theorem dX9_mean_48 : decode cX9_mean 48 = .ok (.invokestatic 133, 3) := by decide +kernel
theorem dX9_mean_51 : decode cX9_mean 51 = .ok (.ireturn, 1) := by decide +kernel
theorem dX9_count_0 : decode cX9_count 0 = .ok (.iload_n 1, 1) := by decide +kernel
theorem dX9_count_1 : decode cX9_count 1 = .ok (.tableswitch 147 0 12 #[67, 67, 67, 67, 67, 74, 79, 90, 111, 121, 129, 137, 142], 67) := by decide +kernel
theorem dX9_count_68 : decode cX9_count 68 = .ok (.aload_n 0, 1) := by decide +kernel
theorem dX9_count_69 : decode cX9_count 69 = .ok (.getfield 7, 3) := by decide +kernel
theorem dX9_count_72 : decode cX9_count 72 = .ok (.iload_n 1, 1) := by decide +kernel
theorem dX9_count_73 : decode cX9_count 73 = .ok (.iaload, 1) := by decide +kernel
theorem dX9_count_74 : decode cX9_count 74 = .ok (.ireturn, 1) := by decide +kernel
theorem dX9_count_75 : decode cX9_count 75 = .ok (.aload_n 0, 1) := by decide +kernel
theorem dX9_count_76 : decode cX9_count 76 = .ok (.invokevirtual 88, 3) := by decide +kernel
theorem dX9_count_79 : decode cX9_count 79 = .ok (.ireturn, 1) := by decide +kernel
theorem dX9_count_80 : decode cX9_count 80 = .ok (.aload_n 0, 1) := by decide +kernel
theorem dX9_count_81 : decode cX9_count 81 = .ok (.getfield 7, 3) := by decide +kernel
theorem dX9_count_84 : decode cX9_count 84 = .ok (.iconst 4, 1) := by decide +kernel
theorem dX9_count_85 : decode cX9_count 85 = .ok (.iaload, 1) := by decide +kernel
theorem dX9_count_86 : decode cX9_count 86 = .ok (.sipush 300, 3) := by decide +kernel
theorem dX9_count_89 : decode cX9_count 89 = .ok (.irem, 1) := by decide +kernel
theorem dX9_count_90 : decode cX9_count 90 = .ok (.ireturn, 1) := by decide +kernel
theorem dX9_count_91 : decode cX9_count 91 = .ok (.aload_n 0, 1) := by decide +kernel
theorem dX9_count_92 : decode cX9_count 92 = .ok (.getfield 7, 3) := by decide +kernel
theorem dX9_count_95 : decode cX9_count 95 = .ok (.iconst 5, 1) := by decide +kernel
theorem dX9_count_96 : decode cX9_count 96 = .ok (.iaload, 1) := by decide +kernel
theorem dX9_count_97 : decode cX9_count 97 = .ok (.ifCond .ge 8, 3) := by decide +kernel
theorem dX9_count_100 : decode cX9_count 100 = .ok (.ldc 71, 2) := by decide +kernel
theorem dX9_count_102 : decode cX9_count 102 = .ok (.goto 9, 3) := by decide +kernel
theorem dX9_count_105 : decode cX9_count 105 = .ok (.aload_n 0, 1) := by decide +kernel
theorem dX9_count_106 : decode cX9_count 106 = .ok (.getfield 7, 3) := by decide +kernel
theorem dX9_count_109 : decode cX9_count 109 = .ok (.iconst 5, 1) := by decide +kernel
theorem dX9_count_110 : decode cX9_count 110 = .ok (.iaload, 1) := by decide +kernel
theorem dX9_count_111 : decode cX9_count 111 = .ok (.ireturn, 1) := by decide +kernel
theorem dX9_count_112 : decode cX9_count 112 = .ok (.iconst 3, 1) := by decide +kernel
theorem dX9_count_113 : decode cX9_count 113 = .ok (.aload_n 0, 1) := by decide +kernel
theorem dX9_count_114 : decode cX9_count 114 = .ok (.getfield 7, 3) := by decide +kernel
theorem dX9_count_117 : decode cX9_count 117 = .ok (.bipush 6, 2) := by decide +kernel
theorem dX9_count_119 : decode cX9_count 119 = .ok (.iaload, 1) := by decide +kernel
theorem dX9_count_120 : decode cX9_count 120 = .ok (.isub, 1) := by decide +kernel
theorem dX9_count_121 : decode cX9_count 121 = .ok (.ireturn, 1) := by decide +kernel
theorem dX9_count_122 : decode cX9_count 122 = .ok (.aload_n 0, 1) := by decide +kernel
theorem dX9_count_123 : decode cX9_count 123 = .ok (.getfield 7, 3) := by decide +kernel
theorem dX9_count_126 : decode cX9_count 126 = .ok (.bipush 7, 2) := by decide +kernel
theorem dX9_count_128 : decode cX9_count 128 = .ok (.iaload, 1) := by decide +kernel
theorem dX9_count_129 : decode cX9_count 129 = .ok (.ireturn, 1) := by decide +kernel
theorem dX9_count_130 : decode cX9_count 130 = .ok (.aload_n 0, 1) := by decide +kernel
theorem dX9_count_131 : decode cX9_count 131 = .ok (.getfield 7, 3) := by decide +kernel
theorem dX9_count_134 : decode cX9_count 134 = .ok (.bipush 8, 2) := by decide +kernel
theorem dX9_count_136 : decode cX9_count 136 = .ok (.iaload, 1) := by decide +kernel
theorem dX9_count_137 : decode cX9_count 137 = .ok (.ireturn, 1) := by decide +kernel
theorem dX9_count_138 : decode cX9_count 138 = .ok (.aload_n 0, 1) := by decide +kernel
theorem dX9_count_139 : decode cX9_count 139 = .ok (.getfield 32, 3) := by decide +kernel
theorem dX9_count_142 : decode cX9_count 142 = .ok (.ireturn, 1) := by decide +kernel
theorem dX9_count_143 : decode cX9_count 143 = .ok (.aload_n 0, 1) := by decide +kernel
theorem dX9_count_144 : decode cX9_count 144 = .ok (.getfield 139, 3) := by decide +kernel
theorem dX9_count_147 : decode cX9_count 147 = .ok (.ireturn, 1) := by decide +kernel
theorem dX9_count_148 : decode cX9_count 148 = .ok (.iload_n 1, 1) := by decide +kernel
theorem dX9_count_149 : decode cX9_count 149 = .ok (.bipush 20, 2) := by decide +kernel
theorem dX9_count_151 : decode cX9_count 151 = .ok (.bipush 21, 2) := by decide +kernel
theorem dX9_count_153 : decode cX9_count 153 = .ok (.invokestatic 47, 3) := by decide +kernel
theorem dX9_count_156 : decode cX9_count 156 = .ok (.ifCond .eq 18, 3) := by decide +kernel
theorem dX9_count_159 : decode cX9_count 159 = .ok (.aload_n 0, 1) := by decide +kernel
theorem dX9_count_160 : decode cX9_count 160 = .ok (.getfield 7, 3) := by decide +kernel
theorem dX9_count_163 : decode cX9_count 163 = .ok (.bipush 9, 2) := by decide +kernel
theorem dX9_count_165 : decode cX9_count 165 = .ok (.iload_n 1, 1) := by decide +kernel
theorem dX9_count_166 : decode cX9_count 166 = .ok (.iadd, 1) := by decide +kernel
theorem dX9_count_167 : decode cX9_count 167 = .ok (.bipush 20, 2) := by decide +kernel
theorem dX9_count_169 : decode cX9_count 169 = .ok (.isub, 1) := by decide +kernel
theorem dX9_count_170 : decode cX9_count 170 = .ok (.iaload, 1) := by decide +kernel
theorem dX9_count_171 : decode cX9_count 171 = .ok (.goto 5, 3) := by decide +kernel
theorem dX9_count_174 : decode cX9_count 174 = .ok (.ldc 51, 2) := by decide +kernel
theorem dX9_count_176 : decode cX9_count 176 = .ok (.ireturn, 1) := by decide +kernel
theorem dX9_undo_0 : decode cX9_undo 0 = .ok (.aload_n 0, 1) := by decide +kernel
theorem dX9_undo_1 : decode cX9_undo 1 = .ok (.getfield 32, 3) := by decide +kernel
theorem dX9_undo_4 : decode cX9_undo 4 = .ok (.ifCond .ne 6, 3) := by decide +kernel
theorem dX9_undo_7 : decode cX9_undo 7 = .ok (.ldc 52, 2) := by decide +kernel
theorem dX9_undo_9 : decode cX9_undo 9 = .ok (.ireturn, 1) := by decide +kernel
theorem dX9_undo_10 : decode cX9_undo 10 = .ok (.aload_n 0, 1) := by decide +kernel
theorem dX9_undo_11 : decode cX9_undo 11 = .ok (.dup, 1) := by decide +kernel
theorem dX9_undo_12 : decode cX9_undo 12 = .ok (.getfield 32, 3) := by decide +kernel
theorem dX9_undo_15 : decode cX9_undo 15 = .ok (.iconst 1, 1) := by decide +kernel
theorem dX9_undo_16 : decode cX9_undo 16 = .ok (.isub, 1) := by decide +kernel
theorem dX9_undo_17 : decode cX9_undo 17 = .ok (.putfield 32, 3) := by decide +kernel
theorem dX9_undo_20 : decode cX9_undo 20 = .ok (.iconst 0, 1) := by decide +kernel
theorem dX9_undo_21 : decode cX9_undo 21 = .ok (.istore_n 1, 1) := by decide +kernel
theorem dX9_undo_22 : decode cX9_undo 22 = .ok (.iload_n 1, 1) := by decide +kernel
theorem dX9_undo_23 : decode cX9_undo 23 = .ok (.sipush 183, 3) := by decide +kernel
theorem dX9_undo_26 : decode cX9_undo 26 = .ok (.if_icmp .ge 30, 3) := by decide +kernel
theorem dX9_undo_29 : decode cX9_undo 29 = .ok (.aload_n 0, 1) := by decide +kernel
theorem dX9_undo_30 : decode cX9_undo 30 = .ok (.getfield 7, 3) := by decide +kernel
theorem dX9_undo_33 : decode cX9_undo 33 = .ok (.iload_n 1, 1) := by decide +kernel
theorem dX9_undo_34 : decode cX9_undo 34 = .ok (.aload_n 0, 1) := by decide +kernel
theorem dX9_undo_35 : decode cX9_undo 35 = .ok (.getfield 13, 3) := by decide +kernel
theorem dX9_undo_38 : decode cX9_undo 38 = .ok (.sipush 183, 3) := by decide +kernel
theorem dX9_undo_41 : decode cX9_undo 41 = .ok (.aload_n 0, 1) := by decide +kernel
theorem dX9_undo_42 : decode cX9_undo 42 = .ok (.getfield 32, 3) := by decide +kernel
theorem dX9_undo_45 : decode cX9_undo 45 = .ok (.imul, 1) := by decide +kernel
theorem dX9_undo_46 : decode cX9_undo 46 = .ok (.iload_n 1, 1) := by decide +kernel
theorem dX9_undo_47 : decode cX9_undo 47 = .ok (.iadd, 1) := by decide +kernel
theorem dX9_undo_48 : decode cX9_undo 48 = .ok (.iaload, 1) := by decide +kernel
theorem dX9_undo_49 : decode cX9_undo 49 = .ok (.iastore, 1) := by decide +kernel
theorem dX9_undo_50 : decode cX9_undo 50 = .ok (.iinc 1 1, 3) := by decide +kernel
theorem dX9_undo_53 : decode cX9_undo 53 = .ok (.goto (-31), 3) := by decide +kernel
theorem dX9_undo_56 : decode cX9_undo 56 = .ok (.aload_n 0, 1) := by decide +kernel
theorem dX9_undo_57 : decode cX9_undo 57 = .ok (.getfield 32, 3) := by decide +kernel
theorem dX9_undo_60 : decode cX9_undo 60 = .ok (.ireturn, 1) := by decide +kernel
theorem dX9_type_0 : decode cX9_type 0 = .ok (.iload_n 1, 1) := by decide +kernel
theorem dX9_type_1 : decode cX9_type 1 = .ok (.bipush 32, 2) := by decide +kernel
theorem dX9_type_3 : decode cX9_type 3 = .ok (.bipush 126, 2) := by decide +kernel
theorem dX9_type_5 : decode cX9_type 5 = .ok (.invokestatic 47, 3) := by decide +kernel
theorem dX9_type_8 : decode cX9_type 8 = .ok (.ifCond .ne 6, 3) := by decide +kernel
theorem dX9_type_11 : decode cX9_type 11 = .ok (.ldc 51, 2) := by decide +kernel
theorem dX9_type_13 : decode cX9_type 13 = .ok (.ireturn, 1) := by decide +kernel
theorem dX9_type_14 : decode cX9_type 14 = .ok (.aload_n 0, 1) := by decide +kernel
theorem dX9_type_15 : decode cX9_type 15 = .ok (.getfield 139, 3) := by decide +kernel
theorem dX9_type_18 : decode cX9_type 18 = .ok (.bipush 60, 2) := by decide +kernel
theorem dX9_type_20 : decode cX9_type 20 = .ok (.if_icmp .ne 6, 3) := by decide +kernel
theorem dX9_type_23 : decode cX9_type 23 = .ok (.ldc 53, 2) := by decide +kernel
theorem dX9_type_25 : decode cX9_type 25 = .ok (.ireturn, 1) := by decide +kernel
theorem dX9_type_26 : decode cX9_type 26 = .ok (.aload_n 0, 1) := by decide +kernel
theorem dX9_type_27 : decode cX9_type 27 = .ok (.getfield 22, 3) := by decide +kernel
theorem dX9_type_30 : decode cX9_type 30 = .ok (.aload_n 0, 1) := by decide +kernel
theorem dX9_type_31 : decode cX9_type 31 = .ok (.getfield 139, 3) := by decide +kernel
theorem dX9_type_34 : decode cX9_type 34 = .ok (.iload_n 1, 1) := by decide +kernel
theorem dX9_type_35 : decode cX9_type 35 = .ok (.iastore, 1) := by decide +kernel
theorem dX9_type_36 : decode cX9_type 36 = .ok (.aload_n 0, 1) := by decide +kernel
theorem dX9_type_37 : decode cX9_type 37 = .ok (.dup, 1) := by decide +kernel
theorem dX9_type_38 : decode cX9_type 38 = .ok (.getfield 139, 3) := by decide +kernel
theorem dX9_type_41 : decode cX9_type 41 = .ok (.iconst 1, 1) := by decide +kernel
theorem dX9_type_42 : decode cX9_type 42 = .ok (.iadd, 1) := by decide +kernel
theorem dX9_type_43 : decode cX9_type 43 = .ok (.putfield 139, 3) := by decide +kernel
theorem dX9_type_46 : decode cX9_type 46 = .ok (.aload_n 0, 1) := by decide +kernel
theorem dX9_type_47 : decode cX9_type 47 = .ok (.getfield 139, 3) := by decide +kernel
theorem dX9_type_50 : decode cX9_type 50 = .ok (.ireturn, 1) := by decide +kernel
theorem dX9_clearText_0 : decode cX9_clearText 0 = .ok (.aload_n 0, 1) := by decide +kernel
theorem dX9_clearText_1 : decode cX9_clearText 1 = .ok (.getfield 139, 3) := by decide +kernel
theorem dX9_clearText_4 : decode cX9_clearText 4 = .ok (.istore_n 1, 1) := by decide +kernel
theorem dX9_clearText_5 : decode cX9_clearText 5 = .ok (.aload_n 0, 1) := by decide +kernel
theorem dX9_clearText_6 : decode cX9_clearText 6 = .ok (.iconst 0, 1) := by decide +kernel
theorem dX9_clearText_7 : decode cX9_clearText 7 = .ok (.putfield 139, 3) := by decide +kernel
theorem dX9_clearText_10 : decode cX9_clearText 10 = .ok (.iload_n 1, 1) := by decide +kernel
theorem dX9_clearText_11 : decode cX9_clearText 11 = .ok (.ireturn, 1) := by decide +kernel
theorem dX9_isAt_0 : decode cX9_isAt 0 = .ok (.aload_n 0, 1) := by decide +kernel
theorem dX9_isAt_1 : decode cX9_isAt 1 = .ok (.getfield 142, 3) := by decide +kernel
theorem dX9_isAt_4 : decode cX9_isAt 4 = .ok (.aload_n 0, 1) := by decide +kernel
theorem dX9_isAt_5 : decode cX9_isAt 5 = .ok (.getfield 139, 3) := by decide +kernel
theorem dX9_isAt_8 : decode cX9_isAt 8 = .ok (.if_icmp .ge 24, 3) := by decide +kernel
theorem dX9_isAt_11 : decode cX9_isAt 11 = .ok (.aload_n 0, 1) := by decide +kernel
theorem dX9_isAt_12 : decode cX9_isAt 12 = .ok (.getfield 22, 3) := by decide +kernel
theorem dX9_isAt_15 : decode cX9_isAt 15 = .ok (.aload_n 0, 1) := by decide +kernel
theorem dX9_isAt_16 : decode cX9_isAt 16 = .ok (.getfield 142, 3) := by decide +kernel
theorem dX9_isAt_19 : decode cX9_isAt 19 = .ok (.iaload, 1) := by decide +kernel
theorem dX9_isAt_20 : decode cX9_isAt 20 = .ok (.iload_n 1, 1) := by decide +kernel
theorem dX9_isAt_21 : decode cX9_isAt 21 = .ok (.iload_n 2, 1) := by decide +kernel
theorem dX9_isAt_22 : decode cX9_isAt 22 = .ok (.invokestatic 47, 3) := by decide +kernel
theorem dX9_isAt_25 : decode cX9_isAt 25 = .ok (.ifCond .eq 7, 3) := by decide +kernel
theorem dX9_isAt_28 : decode cX9_isAt 28 = .ok (.iconst 1, 1) := by decide +kernel
theorem dX9_isAt_29 : decode cX9_isAt 29 = .ok (.goto 4, 3) := by decide +kernel
theorem dX9_isAt_32 : decode cX9_isAt 32 = .ok (.iconst 0, 1) := by decide +kernel
theorem dX9_isAt_33 : decode cX9_isAt 33 = .ok (.ireturn, 1) := by decide +kernel
theorem dX9_sign_0 : decode cX9_sign 0 = .ok (.aload_n 0, 1) := by decide +kernel
theorem dX9_sign_1 : decode cX9_sign 1 = .ok (.iload_n 1, 1) := by decide +kernel
theorem dX9_sign_2 : decode cX9_sign 2 = .ok (.iload_n 1, 1) := by decide +kernel
theorem dX9_sign_3 : decode cX9_sign 3 = .ok (.invokevirtual 145, 3) := by decide +kernel
theorem dX9_sign_6 : decode cX9_sign 6 = .ok (.istore_n 2, 1) := by decide +kernel
theorem dX9_sign_7 : decode cX9_sign 7 = .ok (.aload_n 0, 1) := by decide +kernel
theorem dX9_sign_8 : decode cX9_sign 8 = .ok (.dup, 1) := by decide +kernel
theorem dX9_sign_9 : decode cX9_sign 9 = .ok (.getfield 142, 3) := by decide +kernel
theorem dX9_sign_12 : decode cX9_sign 12 = .ok (.iload_n 2, 1) := by decide +kernel
theorem dX9_sign_13 : decode cX9_sign 13 = .ok (.ifCond .eq 7, 3) := by decide +kernel
theorem dX9_sign_16 : decode cX9_sign 16 = .ok (.iconst 1, 1) := by decide +kernel
theorem dX9_sign_17 : decode cX9_sign 17 = .ok (.goto 4, 3) := by decide +kernel
theorem dX9_sign_20 : decode cX9_sign 20 = .ok (.iconst 0, 1) := by decide +kernel
theorem dX9_sign_21 : decode cX9_sign 21 = .ok (.iadd, 1) := by decide +kernel
theorem dX9_sign_22 : decode cX9_sign 22 = .ok (.putfield 142, 3) := by decide +kernel
theorem dX9_sign_25 : decode cX9_sign 25 = .ok (.iload_n 2, 1) := by decide +kernel
theorem dX9_sign_26 : decode cX9_sign 26 = .ok (.ireturn, 1) := by decide +kernel
theorem dX9_numbered_0 : decode cX9_numbered 0 = .ok (.aload_n 0, 1) := by decide +kernel
theorem dX9_numbered_1 : decode cX9_numbered 1 = .ok (.getfield 142, 3) := by decide +kernel
theorem dX9_numbered_4 : decode cX9_numbered 4 = .ok (.istore_n 2, 1) := by decide +kernel
theorem dX9_numbered_5 : decode cX9_numbered 5 = .ok (.aload_n 0, 1) := by decide +kernel
theorem dX9_numbered_6 : decode cX9_numbered 6 = .ok (.getfield 25, 3) := by decide +kernel
theorem dX9_numbered_9 : decode cX9_numbered 9 = .ok (.iload_n 1, 1) := by decide +kernel
theorem dX9_numbered_10 : decode cX9_numbered 10 = .ok (.iconst 0, 1) := by decide +kernel
theorem dX9_numbered_11 : decode cX9_numbered 11 = .ok (.iastore, 1) := by decide +kernel
theorem dX9_numbered_12 : decode cX9_numbered 12 = .ok (.aload_n 0, 1) := by decide +kernel
theorem dX9_numbered_13 : decode cX9_numbered 13 = .ok (.bipush 48, 2) := by decide +kernel
theorem dX9_numbered_15 : decode cX9_numbered 15 = .ok (.bipush 57, 2) := by decide +kernel
theorem dX9_numbered_17 : decode cX9_numbered 17 = .ok (.invokevirtual 145, 3) := by decide +kernel
theorem dX9_numbered_20 : decode cX9_numbered 20 = .ok (.ifCond .eq 54, 3) := by decide +kernel
theorem dX9_numbered_23 : decode cX9_numbered 23 = .ok (.aload_n 0, 1) := by decide +kernel
theorem dX9_numbered_24 : decode cX9_numbered 24 = .ok (.getfield 142, 3) := by decide +kernel
theorem dX9_numbered_27 : decode cX9_numbered 27 = .ok (.iload_n 2, 1) := by decide +kernel
theorem dX9_numbered_28 : decode cX9_numbered 28 = .ok (.isub, 1) := by decide +kernel
theorem dX9_numbered_29 : decode cX9_numbered 29 = .ok (.iconst 3, 1) := by decide +kernel
theorem dX9_numbered_30 : decode cX9_numbered 30 = .ok (.if_icmp .ge 44, 3) := by decide +kernel
theorem dX9_numbered_33 : decode cX9_numbered 33 = .ok (.aload_n 0, 1) := by decide +kernel
theorem dX9_numbered_34 : decode cX9_numbered 34 = .ok (.getfield 25, 3) := by decide +kernel
theorem dX9_numbered_37 : decode cX9_numbered 37 = .ok (.iload_n 1, 1) := by decide +kernel
theorem dX9_numbered_38 : decode cX9_numbered 38 = .ok (.bipush 10, 2) := by decide +kernel
theorem dX9_numbered_40 : decode cX9_numbered 40 = .ok (.aload_n 0, 1) := by decide +kernel
theorem dX9_numbered_41 : decode cX9_numbered 41 = .ok (.getfield 25, 3) := by decide +kernel
theorem dX9_numbered_44 : decode cX9_numbered 44 = .ok (.iload_n 1, 1) := by decide +kernel
theorem dX9_numbered_45 : decode cX9_numbered 45 = .ok (.iaload, 1) := by decide +kernel
theorem dX9_numbered_46 : decode cX9_numbered 46 = .ok (.imul, 1) := by decide +kernel
theorem dX9_numbered_47 : decode cX9_numbered 47 = .ok (.aload_n 0, 1) := by decide +kernel
theorem dX9_numbered_48 : decode cX9_numbered 48 = .ok (.getfield 22, 3) := by decide +kernel
theorem dX9_numbered_51 : decode cX9_numbered 51 = .ok (.aload_n 0, 1) := by decide +kernel
theorem dX9_numbered_52 : decode cX9_numbered 52 = .ok (.getfield 142, 3) := by decide +kernel
theorem dX9_numbered_55 : decode cX9_numbered 55 = .ok (.iaload, 1) := by decide +kernel
theorem dX9_numbered_56 : decode cX9_numbered 56 = .ok (.iadd, 1) := by decide +kernel
theorem dX9_numbered_57 : decode cX9_numbered 57 = .ok (.bipush 48, 2) := by decide +kernel
theorem dX9_numbered_59 : decode cX9_numbered 59 = .ok (.isub, 1) := by decide +kernel
theorem dX9_numbered_60 : decode cX9_numbered 60 = .ok (.iastore, 1) := by decide +kernel
theorem dX9_numbered_61 : decode cX9_numbered 61 = .ok (.aload_n 0, 1) := by decide +kernel
theorem dX9_numbered_62 : decode cX9_numbered 62 = .ok (.dup, 1) := by decide +kernel
theorem dX9_numbered_63 : decode cX9_numbered 63 = .ok (.getfield 142, 3) := by decide +kernel
theorem dX9_numbered_66 : decode cX9_numbered 66 = .ok (.iconst 1, 1) := by decide +kernel
theorem dX9_numbered_67 : decode cX9_numbered 67 = .ok (.iadd, 1) := by decide +kernel
theorem dX9_numbered_68 : decode cX9_numbered 68 = .ok (.putfield 142, 3) := by decide +kernel
theorem dX9_numbered_71 : decode cX9_numbered 71 = .ok (.goto (-59), 3) := by decide +kernel
theorem dX9_numbered_74 : decode cX9_numbered 74 = .ok (.aload_n 0, 1) := by decide +kernel
theorem dX9_numbered_75 : decode cX9_numbered 75 = .ok (.getfield 142, 3) := by decide +kernel
theorem dX9_numbered_78 : decode cX9_numbered 78 = .ok (.iload_n 2, 1) := by decide +kernel
theorem dX9_numbered_79 : decode cX9_numbered 79 = .ok (.if_icmp .le 7, 3) := by decide +kernel
theorem dX9_numbered_82 : decode cX9_numbered 82 = .ok (.iconst 1, 1) := by decide +kernel
theorem dX9_numbered_83 : decode cX9_numbered 83 = .ok (.goto 4, 3) := by decide +kernel
theorem dX9_numbered_86 : decode cX9_numbered 86 = .ok (.iconst 0, 1) := by decide +kernel
theorem dX9_numbered_87 : decode cX9_numbered 87 = .ok (.ireturn, 1) := by decide +kernel
theorem dX9_numbersOf_0 : decode cX9_numbersOf 0 = .ok (.iload_n 0, 1) := by decide +kernel
theorem dX9_numbersOf_1 : decode cX9_numbersOf 1 = .ok (.bipush 100, 2) := by decide +kernel
theorem dX9_numbersOf_3 : decode cX9_numbersOf 3 = .ok (.if_icmp .eq 9, 3) := by decide +kernel
theorem dX9_numbersOf_6 : decode cX9_numbersOf 6 = .ok (.iload_n 0, 1) := by decide +kernel
theorem dX9_numbersOf_7 : decode cX9_numbersOf 7 = .ok (.bipush 115, 2) := by decide +kernel
theorem dX9_numbersOf_9 : decode cX9_numbersOf 9 = .ok (.if_icmp .ne 7, 3) := by decide +kernel
theorem dX9_numbersOf_12 : decode cX9_numbersOf 12 = .ok (.iconst 2, 1) := by decide +kernel
theorem dX9_numbersOf_13 : decode cX9_numbersOf 13 = .ok (.goto 32, 3) := by decide +kernel
theorem dX9_numbersOf_16 : decode cX9_numbersOf 16 = .ok (.iload_n 0, 1) := by decide +kernel
theorem dX9_numbersOf_17 : decode cX9_numbersOf 17 = .ok (.bipush 108, 2) := by decide +kernel
theorem dX9_numbersOf_19 : decode cX9_numbersOf 19 = .ok (.if_icmp .eq 21, 3) := by decide +kernel
theorem dX9_numbersOf_22 : decode cX9_numbersOf 22 = .ok (.iload_n 0, 1) := by decide +kernel
theorem dX9_numbersOf_23 : decode cX9_numbersOf 23 = .ok (.bipush 98, 2) := by decide +kernel
theorem dX9_numbersOf_25 : decode cX9_numbersOf 25 = .ok (.if_icmp .eq 15, 3) := by decide +kernel
theorem dX9_numbersOf_28 : decode cX9_numbersOf 28 = .ok (.iload_n 0, 1) := by decide +kernel
theorem dX9_numbersOf_29 : decode cX9_numbersOf 29 = .ok (.bipush 118, 2) := by decide +kernel
theorem dX9_numbersOf_31 : decode cX9_numbersOf 31 = .ok (.if_icmp .eq 9, 3) := by decide +kernel
theorem dX9_numbersOf_34 : decode cX9_numbersOf 34 = .ok (.iload_n 0, 1) := by decide +kernel
theorem dX9_numbersOf_35 : decode cX9_numbersOf 35 = .ok (.bipush 109, 2) := by decide +kernel
theorem dX9_numbersOf_37 : decode cX9_numbersOf 37 = .ok (.if_icmp .ne 7, 3) := by decide +kernel
theorem dX9_numbersOf_40 : decode cX9_numbersOf 40 = .ok (.iconst 1, 1) := by decide +kernel
theorem dX9_numbersOf_41 : decode cX9_numbersOf 41 = .ok (.goto 4, 3) := by decide +kernel
theorem dX9_numbersOf_44 : decode cX9_numbersOf 44 = .ok (.iconst 0, 1) := by decide +kernel
theorem dX9_numbersOf_45 : decode cX9_numbersOf 45 = .ok (.ireturn, 1) := by decide +kernel
theorem dX9_reads_0 : decode cX9_reads 0 = .ok (.aload_n 0, 1) := by decide +kernel
theorem dX9_reads_1 : decode cX9_reads 1 = .ok (.aload_n 0, 1) := by decide +kernel
theorem dX9_reads_2 : decode cX9_reads 2 = .ok (.bipush 33, 2) := by decide +kernel
theorem dX9_reads_4 : decode cX9_reads 4 = .ok (.bipush 126, 2) := by decide +kernel
theorem dX9_reads_6 : decode cX9_reads 6 = .ok (.invokevirtual 145, 3) := by decide +kernel
theorem dX9_reads_9 : decode cX9_reads 9 = .ok (.ifCond .eq 15, 3) := by decide +kernel
theorem dX9_reads_12 : decode cX9_reads 12 = .ok (.aload_n 0, 1) := by decide +kernel
theorem dX9_reads_13 : decode cX9_reads 13 = .ok (.getfield 22, 3) := by decide +kernel
theorem dX9_reads_16 : decode cX9_reads 16 = .ok (.aload_n 0, 1) := by decide +kernel
theorem dX9_reads_17 : decode cX9_reads 17 = .ok (.getfield 142, 3) := by decide +kernel
theorem dX9_reads_20 : decode cX9_reads 20 = .ok (.iaload, 1) := by decide +kernel
theorem dX9_reads_21 : decode cX9_reads 21 = .ok (.goto 4, 3) := by decide +kernel
theorem dX9_reads_24 : decode cX9_reads 24 = .ok (.iconst 0, 1) := by decide +kernel
theorem dX9_reads_25 : decode cX9_reads 25 = .ok (.putfield 148, 3) := by decide +kernel
theorem dX9_reads_28 : decode cX9_reads 28 = .ok (.aload_n 0, 1) := by decide +kernel
theorem dX9_reads_29 : decode cX9_reads 29 = .ok (.getfield 148, 3) := by decide +kernel
theorem dX9_reads_32 : decode cX9_reads 32 = .ok (.invokestatic 151, 3) := by decide +kernel
theorem dX9_reads_35 : decode cX9_reads 35 = .ok (.istore_n 1, 1) := by decide +kernel
theorem dX9_reads_36 : decode cX9_reads 36 = .ok (.iload_n 1, 1) := by decide +kernel
theorem dX9_reads_37 : decode cX9_reads 37 = .ok (.ifCond .ne 5, 3) := by decide +kernel
theorem dX9_reads_40 : decode cX9_reads 40 = .ok (.iconst 0, 1) := by decide +kernel
theorem dX9_reads_41 : decode cX9_reads 41 = .ok (.ireturn, 1) := by decide +kernel
theorem dX9_reads_42 : decode cX9_reads 42 = .ok (.aload_n 0, 1) := by decide +kernel
theorem dX9_reads_43 : decode cX9_reads 43 = .ok (.dup, 1) := by decide +kernel
theorem dX9_reads_44 : decode cX9_reads 44 = .ok (.getfield 142, 3) := by decide +kernel
theorem dX9_reads_47 : decode cX9_reads 47 = .ok (.iconst 1, 1) := by decide +kernel
theorem dX9_reads_48 : decode cX9_reads 48 = .ok (.iadd, 1) := by decide +kernel
theorem dX9_reads_49 : decode cX9_reads 49 = .ok (.putfield 142, 3) := by decide +kernel
theorem dX9_reads_52 : decode cX9_reads 52 = .ok (.aload_n 0, 1) := by decide +kernel
theorem dX9_reads_53 : decode cX9_reads 53 = .ok (.iconst 0, 1) := by decide +kernel
theorem dX9_reads_54 : decode cX9_reads 54 = .ok (.invokevirtual 154, 3) := by decide +kernel
theorem dX9_reads_57 : decode cX9_reads 57 = .ok (.istore_n 2, 1) := by decide +kernel
theorem dX9_reads_58 : decode cX9_reads 58 = .ok (.iload_n 2, 1) := by decide +kernel
theorem dX9_reads_59 : decode cX9_reads 59 = .ok (.ifCond .eq 31, 3) := by decide +kernel
theorem dX9_reads_62 : decode cX9_reads 62 = .ok (.iload_n 1, 1) := by decide +kernel
theorem dX9_reads_63 : decode cX9_reads 63 = .ok (.iconst 2, 1) := by decide +kernel
theorem dX9_reads_64 : decode cX9_reads 64 = .ok (.if_icmp .ne 26, 3) := by decide +kernel
theorem dX9_reads_67 : decode cX9_reads 67 = .ok (.aload_n 0, 1) := by decide +kernel
theorem dX9_reads_68 : decode cX9_reads 68 = .ok (.bipush 44, 2) := by decide +kernel
theorem dX9_reads_70 : decode cX9_reads 70 = .ok (.invokevirtual 157, 3) := by decide +kernel
theorem dX9_reads_73 : decode cX9_reads 73 = .ok (.ifCond .eq 15, 3) := by decide +kernel
theorem dX9_reads_76 : decode cX9_reads 76 = .ok (.aload_n 0, 1) := by decide +kernel
theorem dX9_reads_77 : decode cX9_reads 77 = .ok (.iconst 1, 1) := by decide +kernel
theorem dX9_reads_78 : decode cX9_reads 78 = .ok (.invokevirtual 154, 3) := by decide +kernel
theorem dX9_reads_81 : decode cX9_reads 81 = .ok (.ifCond .eq 7, 3) := by decide +kernel
theorem dX9_reads_84 : decode cX9_reads 84 = .ok (.iconst 1, 1) := by decide +kernel
theorem dX9_reads_85 : decode cX9_reads 85 = .ok (.goto 4, 3) := by decide +kernel
theorem dX9_reads_88 : decode cX9_reads 88 = .ok (.iconst 0, 1) := by decide +kernel
theorem dX9_reads_89 : decode cX9_reads 89 = .ok (.istore_n 2, 1) := by decide +kernel
theorem dX9_reads_90 : decode cX9_reads 90 = .ok (.iload_n 2, 1) := by decide +kernel
theorem dX9_reads_91 : decode cX9_reads 91 = .ok (.ifCond .eq 16, 3) := by decide +kernel
theorem dX9_reads_94 : decode cX9_reads 94 = .ok (.aload_n 0, 1) := by decide +kernel
theorem dX9_reads_95 : decode cX9_reads 95 = .ok (.bipush 59, 2) := by decide +kernel
theorem dX9_reads_97 : decode cX9_reads 97 = .ok (.invokevirtual 157, 3) := by decide +kernel
theorem dX9_reads_100 : decode cX9_reads 100 = .ok (.ifCond .eq 7, 3) := by decide +kernel
theorem dX9_reads_103 : decode cX9_reads 103 = .ok (.iconst 1, 1) := by decide +kernel
theorem dX9_reads_104 : decode cX9_reads 104 = .ok (.goto 4, 3) := by decide +kernel
theorem dX9_reads_107 : decode cX9_reads 107 = .ok (.iconst 0, 1) := by decide +kernel
theorem dX9_reads_108 : decode cX9_reads 108 = .ok (.ireturn, 1) := by decide +kernel
theorem dX9_calls_0 : decode cX9_calls 0 = .ok (.aload_n 0, 1) := by decide +kernel
theorem dX9_calls_1 : decode cX9_calls 1 = .ok (.getfield 148, 3) := by decide +kernel
theorem dX9_calls_4 : decode cX9_calls 4 = .ok (.lookupswitch 119 #[(98, 63), (100, 74), (108, 52), (115, 102), (118, 91)], 52) := by decide +kernel
theorem dX9_calls_56 : decode cX9_calls 56 = .ok (.aload_n 0, 1) := by decide +kernel
theorem dX9_calls_57 : decode cX9_calls 57 = .ok (.aload_n 0, 1) := by decide +kernel
theorem dX9_calls_58 : decode cX9_calls 58 = .ok (.getfield 25, 3) := by decide +kernel
theorem dX9_calls_61 : decode cX9_calls 61 = .ok (.iconst 0, 1) := by decide +kernel
theorem dX9_calls_62 : decode cX9_calls 62 = .ok (.iaload, 1) := by decide +kernel
theorem dX9_calls_63 : decode cX9_calls 63 = .ok (.invokevirtual 160, 3) := by decide +kernel
theorem dX9_calls_66 : decode cX9_calls 66 = .ok (.ireturn, 1) := by decide +kernel
theorem dX9_calls_67 : decode cX9_calls 67 = .ok (.aload_n 0, 1) := by decide +kernel
theorem dX9_calls_68 : decode cX9_calls 68 = .ok (.aload_n 0, 1) := by decide +kernel
theorem dX9_calls_69 : decode cX9_calls 69 = .ok (.getfield 25, 3) := by decide +kernel
theorem dX9_calls_72 : decode cX9_calls 72 = .ok (.iconst 0, 1) := by decide +kernel
theorem dX9_calls_73 : decode cX9_calls 73 = .ok (.iaload, 1) := by decide +kernel
theorem dX9_calls_74 : decode cX9_calls 74 = .ok (.invokevirtual 163, 3) := by decide +kernel
theorem dX9_calls_77 : decode cX9_calls 77 = .ok (.ireturn, 1) := by decide +kernel
theorem dX9_calls_78 : decode cX9_calls 78 = .ok (.aload_n 0, 1) := by decide +kernel
theorem dX9_calls_79 : decode cX9_calls 79 = .ok (.aload_n 0, 1) := by decide +kernel
theorem dX9_calls_80 : decode cX9_calls 80 = .ok (.getfield 25, 3) := by decide +kernel
theorem dX9_calls_83 : decode cX9_calls 83 = .ok (.iconst 0, 1) := by decide +kernel
theorem dX9_calls_84 : decode cX9_calls 84 = .ok (.iaload, 1) := by decide +kernel
theorem dX9_calls_85 : decode cX9_calls 85 = .ok (.aload_n 0, 1) := by decide +kernel
theorem dX9_calls_86 : decode cX9_calls 86 = .ok (.getfield 25, 3) := by decide +kernel
theorem dX9_calls_89 : decode cX9_calls 89 = .ok (.iconst 1, 1) := by decide +kernel
theorem dX9_calls_90 : decode cX9_calls 90 = .ok (.iaload, 1) := by decide +kernel
theorem dX9_calls_91 : decode cX9_calls 91 = .ok (.invokevirtual 166, 3) := by decide +kernel
theorem dX9_calls_94 : decode cX9_calls 94 = .ok (.ireturn, 1) := by decide +kernel
theorem dX9_calls_95 : decode cX9_calls 95 = .ok (.aload_n 0, 1) := by decide +kernel
theorem dX9_calls_96 : decode cX9_calls 96 = .ok (.aload_n 0, 1) := by decide +kernel
theorem dX9_calls_97 : decode cX9_calls 97 = .ok (.getfield 25, 3) := by decide +kernel
theorem dX9_calls_100 : decode cX9_calls 100 = .ok (.iconst 0, 1) := by decide +kernel
theorem dX9_calls_101 : decode cX9_calls 101 = .ok (.iaload, 1) := by decide +kernel
theorem dX9_calls_102 : decode cX9_calls 102 = .ok (.invokevirtual 169, 3) := by decide +kernel
theorem dX9_calls_105 : decode cX9_calls 105 = .ok (.ireturn, 1) := by decide +kernel
theorem dX9_calls_106 : decode cX9_calls 106 = .ok (.aload_n 0, 1) := by decide +kernel
theorem dX9_calls_107 : decode cX9_calls 107 = .ok (.aload_n 0, 1) := by decide +kernel
theorem dX9_calls_108 : decode cX9_calls 108 = .ok (.getfield 25, 3) := by decide +kernel
theorem dX9_calls_111 : decode cX9_calls 111 = .ok (.iconst 0, 1) := by decide +kernel
theorem dX9_calls_112 : decode cX9_calls 112 = .ok (.iaload, 1) := by decide +kernel
theorem dX9_calls_113 : decode cX9_calls 113 = .ok (.aload_n 0, 1) := by decide +kernel
theorem dX9_calls_114 : decode cX9_calls 114 = .ok (.getfield 25, 3) := by decide +kernel
theorem dX9_calls_117 : decode cX9_calls 117 = .ok (.iconst 1, 1) := by decide +kernel
theorem dX9_calls_118 : decode cX9_calls 118 = .ok (.iaload, 1) := by decide +kernel
theorem dX9_calls_119 : decode cX9_calls 119 = .ok (.invokevirtual 172, 3) := by decide +kernel
theorem dX9_calls_122 : decode cX9_calls 122 = .ok (.ireturn, 1) := by decide +kernel
theorem dX9_calls_123 : decode cX9_calls 123 = .ok (.aload_n 0, 1) := by decide +kernel
theorem dX9_calls_124 : decode cX9_calls 124 = .ok (.aload_n 0, 1) := by decide +kernel
theorem dX9_calls_125 : decode cX9_calls 125 = .ok (.getfield 25, 3) := by decide +kernel
theorem dX9_calls_128 : decode cX9_calls 128 = .ok (.iconst 0, 1) := by decide +kernel
theorem dX9_calls_129 : decode cX9_calls 129 = .ok (.iaload, 1) := by decide +kernel
theorem dX9_calls_130 : decode cX9_calls 130 = .ok (.invokevirtual 175, 3) := by decide +kernel
theorem dX9_calls_133 : decode cX9_calls 133 = .ok (.ireturn, 1) := by decide +kernel
theorem dX9_plays_0 : decode cX9_plays 0 = .ok (.aload_n 0, 1) := by decide +kernel
theorem dX9_plays_1 : decode cX9_plays 1 = .ok (.iconst 1, 1) := by decide +kernel
theorem dX9_plays_2 : decode cX9_plays 2 = .ok (.putfield 28, 3) := by decide +kernel
theorem dX9_plays_5 : decode cX9_plays 5 = .ok (.aload_n 0, 1) := by decide +kernel
theorem dX9_plays_6 : decode cX9_plays 6 = .ok (.iconst 0, 1) := by decide +kernel
theorem dX9_plays_7 : decode cX9_plays 7 = .ok (.putfield 142, 3) := by decide +kernel
theorem dX9_plays_10 : decode cX9_plays 10 = .ok (.aload_n 0, 1) := by decide +kernel
theorem dX9_plays_11 : decode cX9_plays 11 = .ok (.iconst 0, 1) := by decide +kernel
theorem dX9_plays_12 : decode cX9_plays 12 = .ok (.putfield 178, 3) := by decide +kernel
theorem dX9_plays_15 : decode cX9_plays 15 = .ok (.aload_n 0, 1) := by decide +kernel
theorem dX9_plays_16 : decode cX9_plays 16 = .ok (.iconst 0, 1) := by decide +kernel
theorem dX9_plays_17 : decode cX9_plays 17 = .ok (.putfield 181, 3) := by decide +kernel
theorem dX9_plays_20 : decode cX9_plays 20 = .ok (.iconst 1, 1) := by decide +kernel
theorem dX9_plays_21 : decode cX9_plays 21 = .ok (.istore_n 1, 1) := by decide +kernel
theorem dX9_plays_22 : decode cX9_plays 22 = .ok (.aload_n 0, 1) := by decide +kernel
theorem dX9_plays_23 : decode cX9_plays 23 = .ok (.getfield 142, 3) := by decide +kernel
theorem dX9_plays_26 : decode cX9_plays 26 = .ok (.aload_n 0, 1) := by decide +kernel
theorem dX9_plays_27 : decode cX9_plays 27 = .ok (.getfield 139, 3) := by decide +kernel
theorem dX9_plays_30 : decode cX9_plays 30 = .ok (.if_icmp .ge 94, 3) := by decide +kernel
theorem dX9_plays_33 : decode cX9_plays 33 = .ok (.iload_n 1, 1) := by decide +kernel
theorem dX9_plays_34 : decode cX9_plays 34 = .ok (.ifCond .eq 90, 3) := by decide +kernel
theorem dX9_plays_37 : decode cX9_plays 37 = .ok (.aload_n 0, 1) := by decide +kernel
theorem dX9_plays_38 : decode cX9_plays 38 = .ok (.aload_n 0, 1) := by decide +kernel
theorem dX9_plays_39 : decode cX9_plays 39 = .ok (.getfield 142, 3) := by decide +kernel
theorem dX9_plays_42 : decode cX9_plays 42 = .ok (.putfield 178, 3) := by decide +kernel
theorem dX9_plays_45 : decode cX9_plays 45 = .ok (.aload_n 0, 1) := by decide +kernel
theorem dX9_plays_46 : decode cX9_plays 46 = .ok (.invokevirtual 184, 3) := by decide +kernel
theorem dX9_plays_49 : decode cX9_plays 49 = .ok (.istore_n 2, 1) := by decide +kernel
theorem dX9_plays_50 : decode cX9_plays 50 = .ok (.iload_n 2, 1) := by decide +kernel
theorem dX9_plays_51 : decode cX9_plays 51 = .ok (.ifCond .eq 10, 3) := by decide +kernel
theorem dX9_plays_54 : decode cX9_plays 54 = .ok (.aload_n 0, 1) := by decide +kernel
theorem dX9_plays_55 : decode cX9_plays 55 = .ok (.invokevirtual 188, 3) := by decide +kernel
theorem dX9_plays_58 : decode cX9_plays 58 = .ok (.goto 4, 3) := by decide +kernel
theorem dX9_plays_61 : decode cX9_plays 61 = .ok (.iconst 0, 1) := by decide +kernel
theorem dX9_plays_62 : decode cX9_plays 62 = .ok (.istore_n 3, 1) := by decide +kernel
theorem dX9_plays_63 : decode cX9_plays 63 = .ok (.iload_n 2, 1) := by decide +kernel
theorem dX9_plays_64 : decode cX9_plays 64 = .ok (.ifCond .eq 11, 3) := by decide +kernel
theorem dX9_plays_67 : decode cX9_plays 67 = .ok (.iload_n 3, 1) := by decide +kernel
theorem dX9_plays_68 : decode cX9_plays 68 = .ok (.ifCond .lt 7, 3) := by decide +kernel
theorem dX9_plays_71 : decode cX9_plays 71 = .ok (.iconst 1, 1) := by decide +kernel
theorem dX9_plays_72 : decode cX9_plays 72 = .ok (.goto 4, 3) := by decide +kernel
theorem dX9_plays_75 : decode cX9_plays 75 = .ok (.iconst 0, 1) := by decide +kernel
theorem dX9_plays_76 : decode cX9_plays 76 = .ok (.istore_n 1, 1) := by decide +kernel
theorem dX9_plays_77 : decode cX9_plays 77 = .ok (.aload_n 0, 1) := by decide +kernel
theorem dX9_plays_78 : decode cX9_plays 78 = .ok (.iload_n 2, 1) := by decide +kernel
theorem dX9_plays_79 : decode cX9_plays 79 = .ok (.ifCond .eq 7, 3) := by decide +kernel
theorem dX9_plays_82 : decode cX9_plays 82 = .ok (.iconst 2, 1) := by decide +kernel
theorem dX9_plays_83 : decode cX9_plays 83 = .ok (.goto 4, 3) := by decide +kernel
theorem dX9_plays_86 : decode cX9_plays 86 = .ok (.iconst 1, 1) := by decide +kernel
theorem dX9_plays_87 : decode cX9_plays 87 = .ok (.putfield 191, 3) := by decide +kernel
theorem dX9_plays_90 : decode cX9_plays 90 = .ok (.aload_n 0, 1) := by decide +kernel
theorem dX9_plays_91 : decode cX9_plays 91 = .ok (.iload_n 2, 1) := by decide +kernel
theorem dX9_plays_92 : decode cX9_plays 92 = .ok (.ifCond .eq 7, 3) := by decide +kernel
theorem dX9_plays_95 : decode cX9_plays 95 = .ok (.iload_n 3, 1) := by decide +kernel
theorem dX9_plays_96 : decode cX9_plays 96 = .ok (.goto 12, 3) := by decide +kernel
theorem dX9_plays_99 : decode cX9_plays 99 = .ok (.aload_n 0, 1) := by decide +kernel
theorem dX9_plays_100 : decode cX9_plays 100 = .ok (.getfield 142, 3) := by decide +kernel
theorem dX9_plays_103 : decode cX9_plays 103 = .ok (.aload_n 0, 1) := by decide +kernel
theorem dX9_plays_104 : decode cX9_plays 104 = .ok (.getfield 178, 3) := by decide +kernel
theorem dX9_plays_107 : decode cX9_plays 107 = .ok (.isub, 1) := by decide +kernel
theorem dX9_plays_108 : decode cX9_plays 108 = .ok (.putfield 194, 3) := by decide +kernel
theorem dX9_plays_111 : decode cX9_plays 111 = .ok (.aload_n 0, 1) := by decide +kernel
theorem dX9_plays_112 : decode cX9_plays 112 = .ok (.dup, 1) := by decide +kernel
theorem dX9_plays_113 : decode cX9_plays 113 = .ok (.getfield 181, 3) := by decide +kernel
theorem dX9_plays_116 : decode cX9_plays 116 = .ok (.iconst 1, 1) := by decide +kernel
theorem dX9_plays_117 : decode cX9_plays 117 = .ok (.iadd, 1) := by decide +kernel
theorem dX9_plays_118 : decode cX9_plays 118 = .ok (.putfield 181, 3) := by decide +kernel
theorem dX9_plays_121 : decode cX9_plays 121 = .ok (.goto (-99), 3) := by decide +kernel
theorem dX9_plays_124 : decode cX9_plays 124 = .ok (.aload_n 0, 1) := by decide +kernel
theorem dX9_plays_125 : decode cX9_plays 125 = .ok (.iconst 0, 1) := by decide +kernel
theorem dX9_plays_126 : decode cX9_plays 126 = .ok (.putfield 28, 3) := by decide +kernel
theorem dX9_plays_129 : decode cX9_plays 129 = .ok (.iload_n 1, 1) := by decide +kernel
theorem dX9_plays_130 : decode cX9_plays 130 = .ok (.ireturn, 1) := by decide +kernel
theorem dX9_fault_0 : decode cX9_fault 0 = .ok (.iload_n 1, 1) := by decide +kernel
theorem dX9_fault_1 : decode cX9_fault 1 = .ok (.iconst 0, 1) := by decide +kernel
theorem dX9_fault_2 : decode cX9_fault 2 = .ok (.iconst 2, 1) := by decide +kernel
theorem dX9_fault_3 : decode cX9_fault 3 = .ok (.invokestatic 47, 3) := by decide +kernel
theorem dX9_fault_6 : decode cX9_fault 6 = .ok (.ifCond .ne 6, 3) := by decide +kernel
theorem dX9_fault_9 : decode cX9_fault 9 = .ok (.ldc 51, 2) := by decide +kernel
theorem dX9_fault_11 : decode cX9_fault 11 = .ok (.ireturn, 1) := by decide +kernel
theorem dX9_fault_12 : decode cX9_fault 12 = .ok (.aload_n 0, 1) := by decide +kernel
theorem dX9_fault_13 : decode cX9_fault 13 = .ok (.getfield 7, 3) := by decide +kernel
theorem dX9_fault_16 : decode cX9_fault 16 = .ok (.aload_n 0, 1) := by decide +kernel
theorem dX9_fault_17 : decode cX9_fault 17 = .ok (.getfield 16, 3) := by decide +kernel
theorem dX9_fault_20 : decode cX9_fault 20 = .ok (.invokestatic 126, 3) := by decide +kernel
theorem dX9_fault_23 : decode cX9_fault 23 = .ok (.aload_n 0, 1) := by decide +kernel
theorem dX9_fault_24 : decode cX9_fault 24 = .ok (.invokevirtual 197, 3) := by decide +kernel
theorem dX9_fault_27 : decode cX9_fault 27 = .ok (.istore_n 2, 1) := by decide +kernel
theorem dX9_fault_28 : decode cX9_fault 28 = .ok (.aload_n 0, 1) := by decide +kernel
theorem dX9_fault_29 : decode cX9_fault 29 = .ok (.getfield 16, 3) := by decide +kernel
theorem dX9_fault_32 : decode cX9_fault 32 = .ok (.aload_n 0, 1) := by decide +kernel
theorem dX9_fault_33 : decode cX9_fault 33 = .ok (.getfield 7, 3) := by decide +kernel
theorem dX9_fault_36 : decode cX9_fault 36 = .ok (.invokestatic 126, 3) := by decide +kernel
theorem dX9_fault_39 : decode cX9_fault 39 = .ok (.iload_n 2, 1) := by decide +kernel
theorem dX9_fault_40 : decode cX9_fault 40 = .ok (.ifCond .eq 8, 3) := by decide +kernel
theorem dX9_fault_43 : decode cX9_fault 43 = .ok (.ldc 71, 2) := by decide +kernel
theorem dX9_fault_45 : decode cX9_fault 45 = .ok (.goto 30, 3) := by decide +kernel
theorem dX9_fault_48 : decode cX9_fault 48 = .ok (.iload_n 1, 1) := by decide +kernel
theorem dX9_fault_49 : decode cX9_fault 49 = .ok (.ifCond .ne 10, 3) := by decide +kernel
theorem dX9_fault_52 : decode cX9_fault 52 = .ok (.aload_n 0, 1) := by decide +kernel
theorem dX9_fault_53 : decode cX9_fault 53 = .ok (.getfield 178, 3) := by decide +kernel
theorem dX9_fault_56 : decode cX9_fault 56 = .ok (.goto 19, 3) := by decide +kernel
theorem dX9_fault_59 : decode cX9_fault 59 = .ok (.iload_n 1, 1) := by decide +kernel
theorem dX9_fault_60 : decode cX9_fault 60 = .ok (.iconst 1, 1) := by decide +kernel
theorem dX9_fault_61 : decode cX9_fault 61 = .ok (.if_icmp .ne 10, 3) := by decide +kernel
theorem dX9_fault_64 : decode cX9_fault 64 = .ok (.aload_n 0, 1) := by decide +kernel
theorem dX9_fault_65 : decode cX9_fault 65 = .ok (.getfield 191, 3) := by decide +kernel
theorem dX9_fault_68 : decode cX9_fault 68 = .ok (.goto 7, 3) := by decide +kernel
theorem dX9_fault_71 : decode cX9_fault 71 = .ok (.aload_n 0, 1) := by decide +kernel
theorem dX9_fault_72 : decode cX9_fault 72 = .ok (.getfield 194, 3) := by decide +kernel
theorem dX9_fault_75 : decode cX9_fault 75 = .ok (.ireturn, 1) := by decide +kernel
theorem dX9_play_0 : decode cX9_play 0 = .ok (.aload_n 0, 1) := by decide +kernel
theorem dX9_play_1 : decode cX9_play 1 = .ok (.getfield 7, 3) := by decide +kernel
theorem dX9_play_4 : decode cX9_play 4 = .ok (.aload_n 0, 1) := by decide +kernel
theorem dX9_play_5 : decode cX9_play 5 = .ok (.getfield 16, 3) := by decide +kernel
theorem dX9_play_8 : decode cX9_play 8 = .ok (.invokestatic 126, 3) := by decide +kernel
theorem dX9_play_11 : decode cX9_play 11 = .ok (.aload_n 0, 1) := by decide +kernel
theorem dX9_play_12 : decode cX9_play 12 = .ok (.invokevirtual 197, 3) := by decide +kernel
theorem dX9_play_15 : decode cX9_play 15 = .ok (.istore_n 1, 1) := by decide +kernel
theorem dX9_play_16 : decode cX9_play 16 = .ok (.aload_n 0, 1) := by decide +kernel
theorem dX9_play_17 : decode cX9_play 17 = .ok (.getfield 16, 3) := by decide +kernel
theorem dX9_play_20 : decode cX9_play 20 = .ok (.aload_n 0, 1) := by decide +kernel
theorem dX9_play_21 : decode cX9_play 21 = .ok (.getfield 7, 3) := by decide +kernel
theorem dX9_play_24 : decode cX9_play 24 = .ok (.invokestatic 126, 3) := by decide +kernel
theorem dX9_play_27 : decode cX9_play 27 = .ok (.iload_n 1, 1) := by decide +kernel
theorem dX9_play_28 : decode cX9_play 28 = .ok (.ifCond .ne 6, 3) := by decide +kernel
theorem dX9_play_31 : decode cX9_play 31 = .ok (.ldc 52, 2) := by decide +kernel
theorem dX9_play_33 : decode cX9_play 33 = .ok (.ireturn, 1) := by decide +kernel
theorem dX9_play_34 : decode cX9_play 34 = .ok (.aload_n 0, 1) := by decide +kernel
theorem dX9_play_35 : decode cX9_play 35 = .ok (.invokevirtual 54, 3) := by decide +kernel
theorem dX9_play_38 : decode cX9_play 38 = .ok (.aload_n 0, 1) := by decide +kernel
theorem dX9_play_39 : decode cX9_play 39 = .ok (.invokevirtual 197, 3) := by decide +kernel
theorem dX9_play_42 : decode cX9_play 42 = .ok (.ifCond .eq 10, 3) := by decide +kernel
theorem dX9_play_45 : decode cX9_play 45 = .ok (.aload_n 0, 1) := by decide +kernel
theorem dX9_play_46 : decode cX9_play 46 = .ok (.getfield 181, 3) := by decide +kernel
theorem dX9_play_49 : decode cX9_play 49 = .ok (.goto 5, 3) := by decide +kernel
theorem dX9_play_52 : decode cX9_play 52 = .ok (.ldc 71, 2) := by decide +kernel
theorem dX9_play_54 : decode cX9_play 54 = .ok (.ireturn, 1) := by decide +kernel
theorem dJxf58ca_isNaN_12338_0 : decode cJxf58ca_isNaN_12338 0 = .ok (.fload_n 0, 1) := by decide +kernel
theorem dJxf58ca_isNaN_12338_1 : decode cJxf58ca_isNaN_12338 1 = .ok (.fload_n 0, 1) := by decide +kernel
theorem dJxf58ca_isNaN_12338_2 : decode cJxf58ca_isNaN_12338 2 = .ok (.fcmp .l, 1) := by decide +kernel
theorem dJxf58ca_isNaN_12338_3 : decode cJxf58ca_isNaN_12338 3 = .ok (.ifCond .eq 7, 3) := by decide +kernel
theorem dJxf58ca_isNaN_12338_6 : decode cJxf58ca_isNaN_12338 6 = .ok (.iconst 1, 1) := by decide +kernel
theorem dJxf58ca_isNaN_12338_7 : decode cJxf58ca_isNaN_12338 7 = .ok (.goto 4, 3) := by decide +kernel
theorem dJxf58ca_isNaN_12338_10 : decode cJxf58ca_isNaN_12338 10 = .ok (.iconst 0, 1) := by decide +kernel
theorem dJxf58ca_isNaN_12338_11 : decode cJxf58ca_isNaN_12338 11 = .ok (.ireturn, 1) := by decide +kernel
theorem dJxf58ca_floatToIntBits_5c35a_0 : decode cJxf58ca_floatToIntBits_5c35a 0 = .ok (.fload_n 0, 1) := by decide +kernel
theorem dJxf58ca_floatToIntBits_5c35a_1 : decode cJxf58ca_floatToIntBits_5c35a 1 = .ok (.invokestatic 59, 3) := by decide +kernel
theorem dJxf58ca_floatToIntBits_5c35a_4 : decode cJxf58ca_floatToIntBits_5c35a 4 = .ok (.ifCond .ne 8, 3) := by decide +kernel
theorem dJxf58ca_floatToIntBits_5c35a_7 : decode cJxf58ca_floatToIntBits_5c35a 7 = .ok (.fload_n 0, 1) := by decide +kernel
theorem dJxf58ca_floatToIntBits_5c35a_8 : decode cJxf58ca_floatToIntBits_5c35a 8 = .ok (.invokestatic 74, 3) := by decide +kernel
theorem dJxf58ca_floatToIntBits_5c35a_11 : decode cJxf58ca_floatToIntBits_5c35a 11 = .ok (.ireturn, 1) := by decide +kernel
theorem dJxf58ca_floatToIntBits_5c35a_12 : decode cJxf58ca_floatToIntBits_5c35a 12 = .ok (.ldc 77, 2) := by decide +kernel
theorem dJxf58ca_floatToIntBits_5c35a_14 : decode cJxf58ca_floatToIntBits_5c35a 14 = .ok (.ireturn, 1) := by decide +kernel
theorem dJ6_bitCount_0f7a4_0 : decode cJ6_bitCount_0f7a4 0 = .ok (.iload_n 0, 1) := by decide +kernel
theorem dJ6_bitCount_0f7a4_1 : decode cJ6_bitCount_0f7a4 1 = .ok (.iload_n 0, 1) := by decide +kernel
theorem dJ6_bitCount_0f7a4_2 : decode cJ6_bitCount_0f7a4 2 = .ok (.iconst 1, 1) := by decide +kernel
theorem dJ6_bitCount_0f7a4_3 : decode cJ6_bitCount_0f7a4 3 = .ok (.iushr, 1) := by decide +kernel
theorem dJ6_bitCount_0f7a4_4 : decode cJ6_bitCount_0f7a4 4 = .ok (.ldc_w 265, 3) := by decide +kernel
theorem dJ6_bitCount_0f7a4_7 : decode cJ6_bitCount_0f7a4 7 = .ok (.iand, 1) := by decide +kernel
theorem dJ6_bitCount_0f7a4_8 : decode cJ6_bitCount_0f7a4 8 = .ok (.isub, 1) := by decide +kernel
theorem dJ6_bitCount_0f7a4_9 : decode cJ6_bitCount_0f7a4 9 = .ok (.istore_n 0, 1) := by decide +kernel
theorem dJ6_bitCount_0f7a4_10 : decode cJ6_bitCount_0f7a4 10 = .ok (.iload_n 0, 1) := by decide +kernel
theorem dJ6_bitCount_0f7a4_11 : decode cJ6_bitCount_0f7a4 11 = .ok (.ldc_w 266, 3) := by decide +kernel
theorem dJ6_bitCount_0f7a4_14 : decode cJ6_bitCount_0f7a4 14 = .ok (.iand, 1) := by decide +kernel
theorem dJ6_bitCount_0f7a4_15 : decode cJ6_bitCount_0f7a4 15 = .ok (.iload_n 0, 1) := by decide +kernel
theorem dJ6_bitCount_0f7a4_16 : decode cJ6_bitCount_0f7a4 16 = .ok (.iconst 2, 1) := by decide +kernel
theorem dJ6_bitCount_0f7a4_17 : decode cJ6_bitCount_0f7a4 17 = .ok (.iushr, 1) := by decide +kernel
theorem dJ6_bitCount_0f7a4_18 : decode cJ6_bitCount_0f7a4 18 = .ok (.ldc_w 266, 3) := by decide +kernel
theorem dJ6_bitCount_0f7a4_21 : decode cJ6_bitCount_0f7a4 21 = .ok (.iand, 1) := by decide +kernel
theorem dJ6_bitCount_0f7a4_22 : decode cJ6_bitCount_0f7a4 22 = .ok (.iadd, 1) := by decide +kernel
theorem dJ6_bitCount_0f7a4_23 : decode cJ6_bitCount_0f7a4 23 = .ok (.istore_n 0, 1) := by decide +kernel
theorem dJ6_bitCount_0f7a4_24 : decode cJ6_bitCount_0f7a4 24 = .ok (.iload_n 0, 1) := by decide +kernel
theorem dJ6_bitCount_0f7a4_25 : decode cJ6_bitCount_0f7a4 25 = .ok (.iload_n 0, 1) := by decide +kernel
theorem dJ6_bitCount_0f7a4_26 : decode cJ6_bitCount_0f7a4 26 = .ok (.iconst 4, 1) := by decide +kernel
theorem dJ6_bitCount_0f7a4_27 : decode cJ6_bitCount_0f7a4 27 = .ok (.iushr, 1) := by decide +kernel
theorem dJ6_bitCount_0f7a4_28 : decode cJ6_bitCount_0f7a4 28 = .ok (.iadd, 1) := by decide +kernel
theorem dJ6_bitCount_0f7a4_29 : decode cJ6_bitCount_0f7a4 29 = .ok (.ldc_w 267, 3) := by decide +kernel
theorem dJ6_bitCount_0f7a4_32 : decode cJ6_bitCount_0f7a4 32 = .ok (.iand, 1) := by decide +kernel
theorem dJ6_bitCount_0f7a4_33 : decode cJ6_bitCount_0f7a4 33 = .ok (.istore_n 0, 1) := by decide +kernel
theorem dJ6_bitCount_0f7a4_34 : decode cJ6_bitCount_0f7a4 34 = .ok (.iload_n 0, 1) := by decide +kernel
theorem dJ6_bitCount_0f7a4_35 : decode cJ6_bitCount_0f7a4 35 = .ok (.iload_n 0, 1) := by decide +kernel
theorem dJ6_bitCount_0f7a4_36 : decode cJ6_bitCount_0f7a4 36 = .ok (.bipush 8, 2) := by decide +kernel
theorem dJ6_bitCount_0f7a4_38 : decode cJ6_bitCount_0f7a4 38 = .ok (.iushr, 1) := by decide +kernel
theorem dJ6_bitCount_0f7a4_39 : decode cJ6_bitCount_0f7a4 39 = .ok (.iadd, 1) := by decide +kernel
theorem dJ6_bitCount_0f7a4_40 : decode cJ6_bitCount_0f7a4 40 = .ok (.istore_n 0, 1) := by decide +kernel
theorem dJ6_bitCount_0f7a4_41 : decode cJ6_bitCount_0f7a4 41 = .ok (.iload_n 0, 1) := by decide +kernel
theorem dJ6_bitCount_0f7a4_42 : decode cJ6_bitCount_0f7a4 42 = .ok (.iload_n 0, 1) := by decide +kernel
theorem dJ6_bitCount_0f7a4_43 : decode cJ6_bitCount_0f7a4 43 = .ok (.bipush 16, 2) := by decide +kernel
theorem dJ6_bitCount_0f7a4_45 : decode cJ6_bitCount_0f7a4 45 = .ok (.iushr, 1) := by decide +kernel
theorem dJ6_bitCount_0f7a4_46 : decode cJ6_bitCount_0f7a4 46 = .ok (.iadd, 1) := by decide +kernel
theorem dJ6_bitCount_0f7a4_47 : decode cJ6_bitCount_0f7a4 47 = .ok (.istore_n 0, 1) := by decide +kernel
theorem dJ6_bitCount_0f7a4_48 : decode cJ6_bitCount_0f7a4 48 = .ok (.iload_n 0, 1) := by decide +kernel
theorem dJ6_bitCount_0f7a4_49 : decode cJ6_bitCount_0f7a4 49 = .ok (.bipush 63, 2) := by decide +kernel
theorem dJ6_bitCount_0f7a4_51 : decode cJ6_bitCount_0f7a4 51 = .ok (.iand, 1) := by decide +kernel
theorem dJ6_bitCount_0f7a4_52 : decode cJ6_bitCount_0f7a4 52 = .ok (.ireturn, 1) := by decide +kernel
theorem dJ9_max_7cf53_0 : decode cJ9_max_7cf53 0 = .ok (.iload_n 0, 1) := by decide +kernel
theorem dJ9_max_7cf53_1 : decode cJ9_max_7cf53 1 = .ok (.iload_n 1, 1) := by decide +kernel
theorem dJ9_max_7cf53_2 : decode cJ9_max_7cf53 2 = .ok (.if_icmp .lt 7, 3) := by decide +kernel
theorem dJ9_max_7cf53_5 : decode cJ9_max_7cf53 5 = .ok (.iload_n 0, 1) := by decide +kernel
theorem dJ9_max_7cf53_6 : decode cJ9_max_7cf53 6 = .ok (.goto 4, 3) := by decide +kernel
theorem dJ9_max_7cf53_9 : decode cJ9_max_7cf53 9 = .ok (.iload_n 1, 1) := by decide +kernel
theorem dJ9_max_7cf53_10 : decode cJ9_max_7cf53 10 = .ok (.ireturn, 1) := by decide +kernel
theorem dJ9_min_7cf53_0 : decode cJ9_min_7cf53 0 = .ok (.iload_n 0, 1) := by decide +kernel
theorem dJ9_min_7cf53_1 : decode cJ9_min_7cf53 1 = .ok (.iload_n 1, 1) := by decide +kernel
theorem dJ9_min_7cf53_2 : decode cJ9_min_7cf53 2 = .ok (.if_icmp .gt 7, 3) := by decide +kernel
theorem dJ9_min_7cf53_5 : decode cJ9_min_7cf53 5 = .ok (.iload_n 0, 1) := by decide +kernel
theorem dJ9_min_7cf53_6 : decode cJ9_min_7cf53 6 = .ok (.goto 4, 3) := by decide +kernel
theorem dJ9_min_7cf53_9 : decode cJ9_min_7cf53 9 = .ok (.iload_n 1, 1) := by decide +kernel
theorem dJ9_min_7cf53_10 : decode cJ9_min_7cf53 10 = .ok (.ireturn, 1) := by decide +kernel
theorem dL_law_0 : decode cL_law 0 = .ok (.new 7, 3) := by decide +kernel
theorem dL_law_3 : decode cL_law 3 = .ok (.dup, 1) := by decide +kernel
theorem dL_law_4 : decode cL_law 4 = .ok (.invokespecial 9, 3) := by decide +kernel
theorem dL_law_7 : decode cL_law 7 = .ok (.astore_n 1, 1) := by decide +kernel
theorem dL_law_8 : decode cL_law 8 = .ok (.new 10, 3) := by decide +kernel
theorem dL_law_11 : decode cL_law 11 = .ok (.dup, 1) := by decide +kernel
theorem dL_law_12 : decode cL_law 12 = .ok (.invokespecial 12, 3) := by decide +kernel
theorem dL_law_15 : decode cL_law 15 = .ok (.astore_n 2, 1) := by decide +kernel
theorem dL_law_16 : decode cL_law 16 = .ok (.iconst 0, 1) := by decide +kernel
theorem dL_law_17 : decode cL_law 17 = .ok (.istore_n 3, 1) := by decide +kernel
theorem dL_law_18 : decode cL_law 18 = .ok (.iload_n 3, 1) := by decide +kernel
theorem dL_law_19 : decode cL_law 19 = .ok (.aload_n 0, 1) := by decide +kernel
theorem dL_law_20 : decode cL_law 20 = .ok (.arraylength, 1) := by decide +kernel
theorem dL_law_21 : decode cL_law 21 = .ok (.iconst 4, 1) := by decide +kernel
theorem dL_law_22 : decode cL_law 22 = .ok (.isub, 1) := by decide +kernel
theorem dL_law_23 : decode cL_law 23 = .ok (.if_icmp .gt 840, 3) := by decide +kernel
theorem dL_law_26 : decode cL_law 26 = .ok (.aload_n 0, 1) := by decide +kernel
theorem dL_law_27 : decode cL_law 27 = .ok (.iload_n 3, 1) := by decide +kernel
theorem dL_law_28 : decode cL_law 28 = .ok (.iaload, 1) := by decide +kernel
theorem dL_law_29 : decode cL_law 29 = .ok (.bipush 31, 2) := by decide +kernel
theorem dL_law_31 : decode cL_law 31 = .ok (.iand, 1) := by decide +kernel
theorem dL_law_32 : decode cL_law 32 = .ok (.tableswitch 825 0 26 #[124, 157, 200, 233, 256, 279, 312, 335, 358, 391, 414, 447, 480, 513, 546, 579, 602, 635, 668, 691, 704, 717, 740, 753, 776, 789, 812], 124) := by decide +kernel
theorem dL_law_156 : decode cL_law 156 = .ok (.aload_n 1, 1) := by decide +kernel
theorem dL_law_157 : decode cL_law 157 = .ok (.aload_n 0, 1) := by decide +kernel
theorem dL_law_158 : decode cL_law 158 = .ok (.iload_n 3, 1) := by decide +kernel
theorem dL_law_159 : decode cL_law 159 = .ok (.iconst 1, 1) := by decide +kernel
theorem dL_law_160 : decode cL_law 160 = .ok (.iadd, 1) := by decide +kernel
theorem dL_law_161 : decode cL_law 161 = .ok (.iaload, 1) := by decide +kernel
theorem dL_law_162 : decode cL_law 162 = .ok (.aload_n 0, 1) := by decide +kernel
theorem dL_law_163 : decode cL_law 163 = .ok (.iload_n 3, 1) := by decide +kernel
theorem dL_law_164 : decode cL_law 164 = .ok (.iconst 2, 1) := by decide +kernel
theorem dL_law_165 : decode cL_law 165 = .ok (.iadd, 1) := by decide +kernel
theorem dL_law_166 : decode cL_law 166 = .ok (.iaload, 1) := by decide +kernel
theorem dL_law_167 : decode cL_law 167 = .ok (.invokevirtual 13, 3) := by decide +kernel
theorem dL_law_170 : decode cL_law 170 = .ok (.aload_n 2, 1) := by decide +kernel
theorem dL_law_171 : decode cL_law 171 = .ok (.aload_n 0, 1) := by decide +kernel
theorem dL_law_172 : decode cL_law 172 = .ok (.iload_n 3, 1) := by decide +kernel
theorem dL_law_173 : decode cL_law 173 = .ok (.iconst 1, 1) := by decide +kernel
theorem dL_law_174 : decode cL_law 174 = .ok (.iadd, 1) := by decide +kernel
theorem dL_law_175 : decode cL_law 175 = .ok (.iaload, 1) := by decide +kernel
theorem dL_law_176 : decode cL_law 176 = .ok (.aload_n 0, 1) := by decide +kernel
theorem dL_law_177 : decode cL_law 177 = .ok (.iload_n 3, 1) := by decide +kernel
theorem dL_law_178 : decode cL_law 178 = .ok (.iconst 2, 1) := by decide +kernel
theorem dL_law_179 : decode cL_law 179 = .ok (.iadd, 1) := by decide +kernel
theorem dL_law_180 : decode cL_law 180 = .ok (.iaload, 1) := by decide +kernel
theorem dL_law_181 : decode cL_law 181 = .ok (.invokevirtual 17, 3) := by decide +kernel
theorem dL_law_184 : decode cL_law 184 = .ok (.if_icmp .eq 673, 3) := by decide +kernel
theorem dL_law_187 : decode cL_law 187 = .ok (.iconst 0, 1) := by decide +kernel
theorem dL_law_188 : decode cL_law 188 = .ok (.ireturn, 1) := by decide +kernel
theorem dL_law_189 : decode cL_law 189 = .ok (.aload_n 1, 1) := by decide +kernel
theorem dL_law_190 : decode cL_law 190 = .ok (.aload_n 0, 1) := by decide +kernel
theorem dL_law_191 : decode cL_law 191 = .ok (.iload_n 3, 1) := by decide +kernel
theorem dL_law_192 : decode cL_law 192 = .ok (.iconst 1, 1) := by decide +kernel
theorem dL_law_193 : decode cL_law 193 = .ok (.iadd, 1) := by decide +kernel
theorem dL_law_194 : decode cL_law 194 = .ok (.iaload, 1) := by decide +kernel
theorem dL_law_195 : decode cL_law 195 = .ok (.aload_n 0, 1) := by decide +kernel
theorem dL_law_196 : decode cL_law 196 = .ok (.iload_n 3, 1) := by decide +kernel
theorem dL_law_197 : decode cL_law 197 = .ok (.iconst 2, 1) := by decide +kernel
theorem dL_law_198 : decode cL_law 198 = .ok (.iadd, 1) := by decide +kernel
theorem dL_law_199 : decode cL_law 199 = .ok (.iaload, 1) := by decide +kernel
theorem dL_law_200 : decode cL_law 200 = .ok (.aload_n 0, 1) := by decide +kernel
theorem dL_law_201 : decode cL_law 201 = .ok (.iload_n 3, 1) := by decide +kernel
theorem dL_law_202 : decode cL_law 202 = .ok (.iconst 3, 1) := by decide +kernel
theorem dL_law_203 : decode cL_law 203 = .ok (.iadd, 1) := by decide +kernel
theorem dL_law_204 : decode cL_law 204 = .ok (.iaload, 1) := by decide +kernel
theorem dL_law_205 : decode cL_law 205 = .ok (.invokevirtual 18, 3) := by decide +kernel
theorem dL_law_208 : decode cL_law 208 = .ok (.aload_n 2, 1) := by decide +kernel
theorem dL_law_209 : decode cL_law 209 = .ok (.aload_n 0, 1) := by decide +kernel
theorem dL_law_210 : decode cL_law 210 = .ok (.iload_n 3, 1) := by decide +kernel
theorem dL_law_211 : decode cL_law 211 = .ok (.iconst 1, 1) := by decide +kernel
theorem dL_law_212 : decode cL_law 212 = .ok (.iadd, 1) := by decide +kernel
theorem dL_law_213 : decode cL_law 213 = .ok (.iaload, 1) := by decide +kernel
theorem dL_law_214 : decode cL_law 214 = .ok (.aload_n 0, 1) := by decide +kernel
theorem dL_law_215 : decode cL_law 215 = .ok (.iload_n 3, 1) := by decide +kernel
theorem dL_law_216 : decode cL_law 216 = .ok (.iconst 2, 1) := by decide +kernel
theorem dL_law_217 : decode cL_law 217 = .ok (.iadd, 1) := by decide +kernel
theorem dL_law_218 : decode cL_law 218 = .ok (.iaload, 1) := by decide +kernel
theorem dL_law_219 : decode cL_law 219 = .ok (.aload_n 0, 1) := by decide +kernel
theorem dL_law_220 : decode cL_law 220 = .ok (.iload_n 3, 1) := by decide +kernel
theorem dL_law_221 : decode cL_law 221 = .ok (.iconst 3, 1) := by decide +kernel
theorem dL_law_222 : decode cL_law 222 = .ok (.iadd, 1) := by decide +kernel
theorem dL_law_223 : decode cL_law 223 = .ok (.iaload, 1) := by decide +kernel
theorem dL_law_224 : decode cL_law 224 = .ok (.invokevirtual 22, 3) := by decide +kernel
theorem dL_law_227 : decode cL_law 227 = .ok (.if_icmp .eq 630, 3) := by decide +kernel
theorem dL_law_230 : decode cL_law 230 = .ok (.iconst 0, 1) := by decide +kernel
theorem dL_law_231 : decode cL_law 231 = .ok (.ireturn, 1) := by decide +kernel
theorem dL_law_232 : decode cL_law 232 = .ok (.aload_n 1, 1) := by decide +kernel
theorem dL_law_233 : decode cL_law 233 = .ok (.aload_n 0, 1) := by decide +kernel
theorem dL_law_234 : decode cL_law 234 = .ok (.iload_n 3, 1) := by decide +kernel
theorem dL_law_235 : decode cL_law 235 = .ok (.iconst 1, 1) := by decide +kernel
theorem dL_law_236 : decode cL_law 236 = .ok (.iadd, 1) := by decide +kernel
theorem dL_law_237 : decode cL_law 237 = .ok (.iaload, 1) := by decide +kernel
theorem dL_law_238 : decode cL_law 238 = .ok (.aload_n 0, 1) := by decide +kernel
theorem dL_law_239 : decode cL_law 239 = .ok (.iload_n 3, 1) := by decide +kernel
theorem dL_law_240 : decode cL_law 240 = .ok (.iconst 2, 1) := by decide +kernel
theorem dL_law_241 : decode cL_law 241 = .ok (.iadd, 1) := by decide +kernel
theorem dL_law_242 : decode cL_law 242 = .ok (.iaload, 1) := by decide +kernel
theorem dL_law_243 : decode cL_law 243 = .ok (.invokevirtual 23, 3) := by decide +kernel
theorem dL_law_246 : decode cL_law 246 = .ok (.aload_n 2, 1) := by decide +kernel
theorem dL_law_247 : decode cL_law 247 = .ok (.aload_n 0, 1) := by decide +kernel
theorem dL_law_248 : decode cL_law 248 = .ok (.iload_n 3, 1) := by decide +kernel
theorem dL_law_249 : decode cL_law 249 = .ok (.iconst 1, 1) := by decide +kernel
theorem dL_law_250 : decode cL_law 250 = .ok (.iadd, 1) := by decide +kernel
theorem dL_law_251 : decode cL_law 251 = .ok (.iaload, 1) := by decide +kernel
theorem dL_law_252 : decode cL_law 252 = .ok (.aload_n 0, 1) := by decide +kernel
theorem dL_law_253 : decode cL_law 253 = .ok (.iload_n 3, 1) := by decide +kernel
theorem dL_law_254 : decode cL_law 254 = .ok (.iconst 2, 1) := by decide +kernel
theorem dL_law_255 : decode cL_law 255 = .ok (.iadd, 1) := by decide +kernel
theorem dL_law_256 : decode cL_law 256 = .ok (.iaload, 1) := by decide +kernel
theorem dL_law_257 : decode cL_law 257 = .ok (.invokevirtual 26, 3) := by decide +kernel
theorem dL_law_260 : decode cL_law 260 = .ok (.if_icmp .eq 597, 3) := by decide +kernel
theorem dL_law_263 : decode cL_law 263 = .ok (.iconst 0, 1) := by decide +kernel
theorem dL_law_264 : decode cL_law 264 = .ok (.ireturn, 1) := by decide +kernel
theorem dL_law_265 : decode cL_law 265 = .ok (.aload_n 1, 1) := by decide +kernel
theorem dL_law_266 : decode cL_law 266 = .ok (.aload_n 0, 1) := by decide +kernel
theorem dL_law_267 : decode cL_law 267 = .ok (.iload_n 3, 1) := by decide +kernel
theorem dL_law_268 : decode cL_law 268 = .ok (.iconst 1, 1) := by decide +kernel
theorem dL_law_269 : decode cL_law 269 = .ok (.iadd, 1) := by decide +kernel
theorem dL_law_270 : decode cL_law 270 = .ok (.iaload, 1) := by decide +kernel
theorem dL_law_271 : decode cL_law 271 = .ok (.invokevirtual 27, 3) := by decide +kernel
theorem dL_law_274 : decode cL_law 274 = .ok (.aload_n 2, 1) := by decide +kernel
theorem dL_law_275 : decode cL_law 275 = .ok (.aload_n 0, 1) := by decide +kernel
theorem dL_law_276 : decode cL_law 276 = .ok (.iload_n 3, 1) := by decide +kernel
theorem dL_law_277 : decode cL_law 277 = .ok (.iconst 1, 1) := by decide +kernel
theorem dL_law_278 : decode cL_law 278 = .ok (.iadd, 1) := by decide +kernel
theorem dL_law_279 : decode cL_law 279 = .ok (.iaload, 1) := by decide +kernel
theorem dL_law_280 : decode cL_law 280 = .ok (.invokevirtual 31, 3) := by decide +kernel
theorem dL_law_283 : decode cL_law 283 = .ok (.if_icmp .eq 574, 3) := by decide +kernel
theorem dL_law_286 : decode cL_law 286 = .ok (.iconst 0, 1) := by decide +kernel
theorem dL_law_287 : decode cL_law 287 = .ok (.ireturn, 1) := by decide +kernel
theorem dL_law_288 : decode cL_law 288 = .ok (.aload_n 1, 1) := by decide +kernel
theorem dL_law_289 : decode cL_law 289 = .ok (.aload_n 0, 1) := by decide +kernel
theorem dL_law_290 : decode cL_law 290 = .ok (.iload_n 3, 1) := by decide +kernel
theorem dL_law_291 : decode cL_law 291 = .ok (.iconst 1, 1) := by decide +kernel
theorem dL_law_292 : decode cL_law 292 = .ok (.iadd, 1) := by decide +kernel
theorem dL_law_293 : decode cL_law 293 = .ok (.iaload, 1) := by decide +kernel
theorem dL_law_294 : decode cL_law 294 = .ok (.invokevirtual 32, 3) := by decide +kernel
theorem dL_law_297 : decode cL_law 297 = .ok (.aload_n 2, 1) := by decide +kernel
theorem dL_law_298 : decode cL_law 298 = .ok (.aload_n 0, 1) := by decide +kernel
theorem dL_law_299 : decode cL_law 299 = .ok (.iload_n 3, 1) := by decide +kernel
theorem dL_law_300 : decode cL_law 300 = .ok (.iconst 1, 1) := by decide +kernel
theorem dL_law_301 : decode cL_law 301 = .ok (.iadd, 1) := by decide +kernel
theorem dL_law_302 : decode cL_law 302 = .ok (.iaload, 1) := by decide +kernel
theorem dL_law_303 : decode cL_law 303 = .ok (.invokevirtual 35, 3) := by decide +kernel
theorem dL_law_306 : decode cL_law 306 = .ok (.if_icmp .eq 551, 3) := by decide +kernel
theorem dL_law_309 : decode cL_law 309 = .ok (.iconst 0, 1) := by decide +kernel
theorem dL_law_310 : decode cL_law 310 = .ok (.ireturn, 1) := by decide +kernel
theorem dL_law_311 : decode cL_law 311 = .ok (.aload_n 1, 1) := by decide +kernel
theorem dL_law_312 : decode cL_law 312 = .ok (.aload_n 0, 1) := by decide +kernel
theorem dL_law_313 : decode cL_law 313 = .ok (.iload_n 3, 1) := by decide +kernel
theorem dL_law_314 : decode cL_law 314 = .ok (.iconst 1, 1) := by decide +kernel
theorem dL_law_315 : decode cL_law 315 = .ok (.iadd, 1) := by decide +kernel
theorem dL_law_316 : decode cL_law 316 = .ok (.iaload, 1) := by decide +kernel
theorem dL_law_317 : decode cL_law 317 = .ok (.aload_n 0, 1) := by decide +kernel
theorem dL_law_318 : decode cL_law 318 = .ok (.iload_n 3, 1) := by decide +kernel
theorem dL_law_319 : decode cL_law 319 = .ok (.iconst 2, 1) := by decide +kernel
theorem dL_law_320 : decode cL_law 320 = .ok (.iadd, 1) := by decide +kernel
theorem dL_law_321 : decode cL_law 321 = .ok (.iaload, 1) := by decide +kernel
theorem dL_law_322 : decode cL_law 322 = .ok (.invokevirtual 36, 3) := by decide +kernel
theorem dL_law_325 : decode cL_law 325 = .ok (.aload_n 2, 1) := by decide +kernel
theorem dL_law_326 : decode cL_law 326 = .ok (.aload_n 0, 1) := by decide +kernel
theorem dL_law_327 : decode cL_law 327 = .ok (.iload_n 3, 1) := by decide +kernel
theorem dL_law_328 : decode cL_law 328 = .ok (.iconst 1, 1) := by decide +kernel
theorem dL_law_329 : decode cL_law 329 = .ok (.iadd, 1) := by decide +kernel
theorem dL_law_330 : decode cL_law 330 = .ok (.iaload, 1) := by decide +kernel
theorem dL_law_331 : decode cL_law 331 = .ok (.aload_n 0, 1) := by decide +kernel
theorem dL_law_332 : decode cL_law 332 = .ok (.iload_n 3, 1) := by decide +kernel
theorem dL_law_333 : decode cL_law 333 = .ok (.iconst 2, 1) := by decide +kernel
theorem dL_law_334 : decode cL_law 334 = .ok (.iadd, 1) := by decide +kernel
theorem dL_law_335 : decode cL_law 335 = .ok (.iaload, 1) := by decide +kernel
theorem dL_law_336 : decode cL_law 336 = .ok (.invokevirtual 39, 3) := by decide +kernel
theorem dL_law_339 : decode cL_law 339 = .ok (.if_icmp .eq 518, 3) := by decide +kernel
theorem dL_law_342 : decode cL_law 342 = .ok (.iconst 0, 1) := by decide +kernel
theorem dL_law_343 : decode cL_law 343 = .ok (.ireturn, 1) := by decide +kernel
theorem dL_law_344 : decode cL_law 344 = .ok (.aload_n 1, 1) := by decide +kernel
theorem dL_law_345 : decode cL_law 345 = .ok (.aload_n 0, 1) := by decide +kernel
theorem dL_law_346 : decode cL_law 346 = .ok (.iload_n 3, 1) := by decide +kernel
theorem dL_law_347 : decode cL_law 347 = .ok (.iconst 1, 1) := by decide +kernel
theorem dL_law_348 : decode cL_law 348 = .ok (.iadd, 1) := by decide +kernel
theorem dL_law_349 : decode cL_law 349 = .ok (.iaload, 1) := by decide +kernel
theorem dL_law_350 : decode cL_law 350 = .ok (.invokevirtual 40, 3) := by decide +kernel
theorem dL_law_353 : decode cL_law 353 = .ok (.aload_n 2, 1) := by decide +kernel
theorem dL_law_354 : decode cL_law 354 = .ok (.aload_n 0, 1) := by decide +kernel
theorem dL_law_355 : decode cL_law 355 = .ok (.iload_n 3, 1) := by decide +kernel
theorem dL_law_356 : decode cL_law 356 = .ok (.iconst 1, 1) := by decide +kernel
theorem dL_law_357 : decode cL_law 357 = .ok (.iadd, 1) := by decide +kernel
theorem dL_law_358 : decode cL_law 358 = .ok (.iaload, 1) := by decide +kernel
theorem dL_law_359 : decode cL_law 359 = .ok (.invokevirtual 43, 3) := by decide +kernel
theorem dL_law_362 : decode cL_law 362 = .ok (.if_icmp .eq 495, 3) := by decide +kernel
theorem dL_law_365 : decode cL_law 365 = .ok (.iconst 0, 1) := by decide +kernel
theorem dL_law_366 : decode cL_law 366 = .ok (.ireturn, 1) := by decide +kernel
theorem dL_law_367 : decode cL_law 367 = .ok (.aload_n 1, 1) := by decide +kernel
theorem dL_law_368 : decode cL_law 368 = .ok (.aload_n 0, 1) := by decide +kernel
theorem dL_law_369 : decode cL_law 369 = .ok (.iload_n 3, 1) := by decide +kernel
theorem dL_law_370 : decode cL_law 370 = .ok (.iconst 1, 1) := by decide +kernel
theorem dL_law_371 : decode cL_law 371 = .ok (.iadd, 1) := by decide +kernel
theorem dL_law_372 : decode cL_law 372 = .ok (.iaload, 1) := by decide +kernel
theorem dL_law_373 : decode cL_law 373 = .ok (.invokevirtual 44, 3) := by decide +kernel
theorem dL_law_376 : decode cL_law 376 = .ok (.aload_n 2, 1) := by decide +kernel
theorem dL_law_377 : decode cL_law 377 = .ok (.aload_n 0, 1) := by decide +kernel
theorem dL_law_378 : decode cL_law 378 = .ok (.iload_n 3, 1) := by decide +kernel
theorem dL_law_379 : decode cL_law 379 = .ok (.iconst 1, 1) := by decide +kernel
theorem dL_law_380 : decode cL_law 380 = .ok (.iadd, 1) := by decide +kernel
theorem dL_law_381 : decode cL_law 381 = .ok (.iaload, 1) := by decide +kernel
theorem dL_law_382 : decode cL_law 382 = .ok (.invokevirtual 47, 3) := by decide +kernel
theorem dL_law_385 : decode cL_law 385 = .ok (.if_icmp .eq 472, 3) := by decide +kernel
theorem dL_law_388 : decode cL_law 388 = .ok (.iconst 0, 1) := by decide +kernel
theorem dL_law_389 : decode cL_law 389 = .ok (.ireturn, 1) := by decide +kernel
theorem dL_law_390 : decode cL_law 390 = .ok (.aload_n 1, 1) := by decide +kernel
theorem dL_law_391 : decode cL_law 391 = .ok (.aload_n 0, 1) := by decide +kernel
theorem dL_law_392 : decode cL_law 392 = .ok (.iload_n 3, 1) := by decide +kernel
theorem dL_law_393 : decode cL_law 393 = .ok (.iconst 1, 1) := by decide +kernel
theorem dL_law_394 : decode cL_law 394 = .ok (.iadd, 1) := by decide +kernel
theorem dL_law_395 : decode cL_law 395 = .ok (.iaload, 1) := by decide +kernel
theorem dL_law_396 : decode cL_law 396 = .ok (.aload_n 0, 1) := by decide +kernel
theorem dL_law_397 : decode cL_law 397 = .ok (.iload_n 3, 1) := by decide +kernel
theorem dL_law_398 : decode cL_law 398 = .ok (.iconst 2, 1) := by decide +kernel
theorem dL_law_399 : decode cL_law 399 = .ok (.iadd, 1) := by decide +kernel
theorem dL_law_400 : decode cL_law 400 = .ok (.iaload, 1) := by decide +kernel
theorem dL_law_401 : decode cL_law 401 = .ok (.invokevirtual 48, 3) := by decide +kernel
theorem dL_law_404 : decode cL_law 404 = .ok (.aload_n 2, 1) := by decide +kernel
theorem dL_law_405 : decode cL_law 405 = .ok (.aload_n 0, 1) := by decide +kernel
theorem dL_law_406 : decode cL_law 406 = .ok (.iload_n 3, 1) := by decide +kernel
theorem dL_law_407 : decode cL_law 407 = .ok (.iconst 1, 1) := by decide +kernel
theorem dL_law_408 : decode cL_law 408 = .ok (.iadd, 1) := by decide +kernel
theorem dL_law_409 : decode cL_law 409 = .ok (.iaload, 1) := by decide +kernel
theorem dL_law_410 : decode cL_law 410 = .ok (.aload_n 0, 1) := by decide +kernel
theorem dL_law_411 : decode cL_law 411 = .ok (.iload_n 3, 1) := by decide +kernel
theorem dL_law_412 : decode cL_law 412 = .ok (.iconst 2, 1) := by decide +kernel
theorem dL_law_413 : decode cL_law 413 = .ok (.iadd, 1) := by decide +kernel
theorem dL_law_414 : decode cL_law 414 = .ok (.iaload, 1) := by decide +kernel
theorem dL_law_415 : decode cL_law 415 = .ok (.invokevirtual 51, 3) := by decide +kernel
theorem dL_law_418 : decode cL_law 418 = .ok (.if_icmp .eq 439, 3) := by decide +kernel
theorem dL_law_421 : decode cL_law 421 = .ok (.iconst 0, 1) := by decide +kernel
theorem dL_law_422 : decode cL_law 422 = .ok (.ireturn, 1) := by decide +kernel
theorem dL_law_423 : decode cL_law 423 = .ok (.aload_n 1, 1) := by decide +kernel
theorem dL_law_424 : decode cL_law 424 = .ok (.aload_n 0, 1) := by decide +kernel
theorem dL_law_425 : decode cL_law 425 = .ok (.iload_n 3, 1) := by decide +kernel
theorem dL_law_426 : decode cL_law 426 = .ok (.iconst 1, 1) := by decide +kernel
theorem dL_law_427 : decode cL_law 427 = .ok (.iadd, 1) := by decide +kernel
theorem dL_law_428 : decode cL_law 428 = .ok (.iaload, 1) := by decide +kernel
theorem dL_law_429 : decode cL_law 429 = .ok (.invokevirtual 52, 3) := by decide +kernel
theorem dL_law_432 : decode cL_law 432 = .ok (.aload_n 2, 1) := by decide +kernel
theorem dL_law_433 : decode cL_law 433 = .ok (.aload_n 0, 1) := by decide +kernel
theorem dL_law_434 : decode cL_law 434 = .ok (.iload_n 3, 1) := by decide +kernel
theorem dL_law_435 : decode cL_law 435 = .ok (.iconst 1, 1) := by decide +kernel
theorem dL_law_436 : decode cL_law 436 = .ok (.iadd, 1) := by decide +kernel
theorem dL_law_437 : decode cL_law 437 = .ok (.iaload, 1) := by decide +kernel
theorem dL_law_438 : decode cL_law 438 = .ok (.invokevirtual 55, 3) := by decide +kernel
theorem dL_law_441 : decode cL_law 441 = .ok (.if_icmp .eq 416, 3) := by decide +kernel
theorem dL_law_444 : decode cL_law 444 = .ok (.iconst 0, 1) := by decide +kernel
theorem dL_law_445 : decode cL_law 445 = .ok (.ireturn, 1) := by decide +kernel
theorem dL_law_446 : decode cL_law 446 = .ok (.aload_n 1, 1) := by decide +kernel
theorem dL_law_447 : decode cL_law 447 = .ok (.aload_n 0, 1) := by decide +kernel
theorem dL_law_448 : decode cL_law 448 = .ok (.iload_n 3, 1) := by decide +kernel
theorem dL_law_449 : decode cL_law 449 = .ok (.iconst 1, 1) := by decide +kernel
theorem dL_law_450 : decode cL_law 450 = .ok (.iadd, 1) := by decide +kernel
theorem dL_law_451 : decode cL_law 451 = .ok (.iaload, 1) := by decide +kernel
theorem dL_law_452 : decode cL_law 452 = .ok (.aload_n 0, 1) := by decide +kernel
theorem dL_law_453 : decode cL_law 453 = .ok (.iload_n 3, 1) := by decide +kernel
theorem dL_law_454 : decode cL_law 454 = .ok (.iconst 2, 1) := by decide +kernel
theorem dL_law_455 : decode cL_law 455 = .ok (.iadd, 1) := by decide +kernel
theorem dL_law_456 : decode cL_law 456 = .ok (.iaload, 1) := by decide +kernel
theorem dL_law_457 : decode cL_law 457 = .ok (.invokevirtual 56, 3) := by decide +kernel
theorem dL_law_460 : decode cL_law 460 = .ok (.aload_n 2, 1) := by decide +kernel
theorem dL_law_461 : decode cL_law 461 = .ok (.aload_n 0, 1) := by decide +kernel
theorem dL_law_462 : decode cL_law 462 = .ok (.iload_n 3, 1) := by decide +kernel
theorem dL_law_463 : decode cL_law 463 = .ok (.iconst 1, 1) := by decide +kernel
theorem dL_law_464 : decode cL_law 464 = .ok (.iadd, 1) := by decide +kernel
theorem dL_law_465 : decode cL_law 465 = .ok (.iaload, 1) := by decide +kernel
theorem dL_law_466 : decode cL_law 466 = .ok (.aload_n 0, 1) := by decide +kernel
theorem dL_law_467 : decode cL_law 467 = .ok (.iload_n 3, 1) := by decide +kernel
theorem dL_law_468 : decode cL_law 468 = .ok (.iconst 2, 1) := by decide +kernel
theorem dL_law_469 : decode cL_law 469 = .ok (.iadd, 1) := by decide +kernel
theorem dL_law_470 : decode cL_law 470 = .ok (.iaload, 1) := by decide +kernel
theorem dL_law_471 : decode cL_law 471 = .ok (.invokevirtual 59, 3) := by decide +kernel
theorem dL_law_474 : decode cL_law 474 = .ok (.if_icmp .eq 383, 3) := by decide +kernel
theorem dL_law_477 : decode cL_law 477 = .ok (.iconst 0, 1) := by decide +kernel
theorem dL_law_478 : decode cL_law 478 = .ok (.ireturn, 1) := by decide +kernel
theorem dL_law_479 : decode cL_law 479 = .ok (.aload_n 1, 1) := by decide +kernel
theorem dL_law_480 : decode cL_law 480 = .ok (.aload_n 0, 1) := by decide +kernel
theorem dL_law_481 : decode cL_law 481 = .ok (.iload_n 3, 1) := by decide +kernel
theorem dL_law_482 : decode cL_law 482 = .ok (.iconst 1, 1) := by decide +kernel
theorem dL_law_483 : decode cL_law 483 = .ok (.iadd, 1) := by decide +kernel
theorem dL_law_484 : decode cL_law 484 = .ok (.iaload, 1) := by decide +kernel
theorem dL_law_485 : decode cL_law 485 = .ok (.aload_n 0, 1) := by decide +kernel
theorem dL_law_486 : decode cL_law 486 = .ok (.iload_n 3, 1) := by decide +kernel
theorem dL_law_487 : decode cL_law 487 = .ok (.iconst 2, 1) := by decide +kernel
theorem dL_law_488 : decode cL_law 488 = .ok (.iadd, 1) := by decide +kernel
theorem dL_law_489 : decode cL_law 489 = .ok (.iaload, 1) := by decide +kernel
theorem dL_law_490 : decode cL_law 490 = .ok (.invokevirtual 60, 3) := by decide +kernel
theorem dL_law_493 : decode cL_law 493 = .ok (.aload_n 2, 1) := by decide +kernel
theorem dL_law_494 : decode cL_law 494 = .ok (.aload_n 0, 1) := by decide +kernel
theorem dL_law_495 : decode cL_law 495 = .ok (.iload_n 3, 1) := by decide +kernel
theorem dL_law_496 : decode cL_law 496 = .ok (.iconst 1, 1) := by decide +kernel
theorem dL_law_497 : decode cL_law 497 = .ok (.iadd, 1) := by decide +kernel
theorem dL_law_498 : decode cL_law 498 = .ok (.iaload, 1) := by decide +kernel
theorem dL_law_499 : decode cL_law 499 = .ok (.aload_n 0, 1) := by decide +kernel
theorem dL_law_500 : decode cL_law 500 = .ok (.iload_n 3, 1) := by decide +kernel
theorem dL_law_501 : decode cL_law 501 = .ok (.iconst 2, 1) := by decide +kernel
theorem dL_law_502 : decode cL_law 502 = .ok (.iadd, 1) := by decide +kernel
theorem dL_law_503 : decode cL_law 503 = .ok (.iaload, 1) := by decide +kernel
theorem dL_law_504 : decode cL_law 504 = .ok (.invokevirtual 63, 3) := by decide +kernel
theorem dL_law_507 : decode cL_law 507 = .ok (.if_icmp .eq 350, 3) := by decide +kernel
theorem dL_law_510 : decode cL_law 510 = .ok (.iconst 0, 1) := by decide +kernel
theorem dL_law_511 : decode cL_law 511 = .ok (.ireturn, 1) := by decide +kernel
theorem dL_law_512 : decode cL_law 512 = .ok (.aload_n 1, 1) := by decide +kernel
theorem dL_law_513 : decode cL_law 513 = .ok (.aload_n 0, 1) := by decide +kernel
theorem dL_law_514 : decode cL_law 514 = .ok (.iload_n 3, 1) := by decide +kernel
theorem dL_law_515 : decode cL_law 515 = .ok (.iconst 1, 1) := by decide +kernel
theorem dL_law_516 : decode cL_law 516 = .ok (.iadd, 1) := by decide +kernel
theorem dL_law_517 : decode cL_law 517 = .ok (.iaload, 1) := by decide +kernel
theorem dL_law_518 : decode cL_law 518 = .ok (.aload_n 0, 1) := by decide +kernel
theorem dL_law_519 : decode cL_law 519 = .ok (.iload_n 3, 1) := by decide +kernel
theorem dL_law_520 : decode cL_law 520 = .ok (.iconst 2, 1) := by decide +kernel
theorem dL_law_521 : decode cL_law 521 = .ok (.iadd, 1) := by decide +kernel
theorem dL_law_522 : decode cL_law 522 = .ok (.iaload, 1) := by decide +kernel
theorem dL_law_523 : decode cL_law 523 = .ok (.invokevirtual 64, 3) := by decide +kernel
theorem dL_law_526 : decode cL_law 526 = .ok (.aload_n 2, 1) := by decide +kernel
theorem dL_law_527 : decode cL_law 527 = .ok (.aload_n 0, 1) := by decide +kernel
theorem dL_law_528 : decode cL_law 528 = .ok (.iload_n 3, 1) := by decide +kernel
theorem dL_law_529 : decode cL_law 529 = .ok (.iconst 1, 1) := by decide +kernel
theorem dL_law_530 : decode cL_law 530 = .ok (.iadd, 1) := by decide +kernel
theorem dL_law_531 : decode cL_law 531 = .ok (.iaload, 1) := by decide +kernel
theorem dL_law_532 : decode cL_law 532 = .ok (.aload_n 0, 1) := by decide +kernel
theorem dL_law_533 : decode cL_law 533 = .ok (.iload_n 3, 1) := by decide +kernel
theorem dL_law_534 : decode cL_law 534 = .ok (.iconst 2, 1) := by decide +kernel
theorem dL_law_535 : decode cL_law 535 = .ok (.iadd, 1) := by decide +kernel
theorem dL_law_536 : decode cL_law 536 = .ok (.iaload, 1) := by decide +kernel
theorem dL_law_537 : decode cL_law 537 = .ok (.invokevirtual 67, 3) := by decide +kernel
theorem dL_law_540 : decode cL_law 540 = .ok (.if_icmp .eq 317, 3) := by decide +kernel
theorem dL_law_543 : decode cL_law 543 = .ok (.iconst 0, 1) := by decide +kernel
theorem dL_law_544 : decode cL_law 544 = .ok (.ireturn, 1) := by decide +kernel
theorem dL_law_545 : decode cL_law 545 = .ok (.aload_n 1, 1) := by decide +kernel
theorem dL_law_546 : decode cL_law 546 = .ok (.aload_n 0, 1) := by decide +kernel
theorem dL_law_547 : decode cL_law 547 = .ok (.iload_n 3, 1) := by decide +kernel
theorem dL_law_548 : decode cL_law 548 = .ok (.iconst 1, 1) := by decide +kernel
theorem dL_law_549 : decode cL_law 549 = .ok (.iadd, 1) := by decide +kernel
theorem dL_law_550 : decode cL_law 550 = .ok (.iaload, 1) := by decide +kernel
theorem dL_law_551 : decode cL_law 551 = .ok (.aload_n 0, 1) := by decide +kernel
theorem dL_law_552 : decode cL_law 552 = .ok (.iload_n 3, 1) := by decide +kernel
theorem dL_law_553 : decode cL_law 553 = .ok (.iconst 2, 1) := by decide +kernel
theorem dL_law_554 : decode cL_law 554 = .ok (.iadd, 1) := by decide +kernel
theorem dL_law_555 : decode cL_law 555 = .ok (.iaload, 1) := by decide +kernel
theorem dL_law_556 : decode cL_law 556 = .ok (.invokevirtual 68, 3) := by decide +kernel
theorem dL_law_559 : decode cL_law 559 = .ok (.aload_n 2, 1) := by decide +kernel
theorem dL_law_560 : decode cL_law 560 = .ok (.aload_n 0, 1) := by decide +kernel
theorem dL_law_561 : decode cL_law 561 = .ok (.iload_n 3, 1) := by decide +kernel
theorem dL_law_562 : decode cL_law 562 = .ok (.iconst 1, 1) := by decide +kernel
theorem dL_law_563 : decode cL_law 563 = .ok (.iadd, 1) := by decide +kernel
theorem dL_law_564 : decode cL_law 564 = .ok (.iaload, 1) := by decide +kernel
theorem dL_law_565 : decode cL_law 565 = .ok (.aload_n 0, 1) := by decide +kernel
theorem dL_law_566 : decode cL_law 566 = .ok (.iload_n 3, 1) := by decide +kernel
theorem dL_law_567 : decode cL_law 567 = .ok (.iconst 2, 1) := by decide +kernel
theorem dL_law_568 : decode cL_law 568 = .ok (.iadd, 1) := by decide +kernel
theorem dL_law_569 : decode cL_law 569 = .ok (.iaload, 1) := by decide +kernel
theorem dL_law_570 : decode cL_law 570 = .ok (.invokevirtual 71, 3) := by decide +kernel
theorem dL_law_573 : decode cL_law 573 = .ok (.if_icmp .eq 284, 3) := by decide +kernel
theorem dL_law_576 : decode cL_law 576 = .ok (.iconst 0, 1) := by decide +kernel
theorem dL_law_577 : decode cL_law 577 = .ok (.ireturn, 1) := by decide +kernel
theorem dL_law_578 : decode cL_law 578 = .ok (.aload_n 1, 1) := by decide +kernel
theorem dL_law_579 : decode cL_law 579 = .ok (.aload_n 0, 1) := by decide +kernel
theorem dL_law_580 : decode cL_law 580 = .ok (.iload_n 3, 1) := by decide +kernel
theorem dL_law_581 : decode cL_law 581 = .ok (.iconst 1, 1) := by decide +kernel
theorem dL_law_582 : decode cL_law 582 = .ok (.iadd, 1) := by decide +kernel
theorem dL_law_583 : decode cL_law 583 = .ok (.iaload, 1) := by decide +kernel
theorem dL_law_584 : decode cL_law 584 = .ok (.aload_n 0, 1) := by decide +kernel
theorem dL_law_585 : decode cL_law 585 = .ok (.iload_n 3, 1) := by decide +kernel
theorem dL_law_586 : decode cL_law 586 = .ok (.iconst 2, 1) := by decide +kernel
theorem dL_law_587 : decode cL_law 587 = .ok (.iadd, 1) := by decide +kernel
theorem dL_law_588 : decode cL_law 588 = .ok (.iaload, 1) := by decide +kernel
theorem dL_law_589 : decode cL_law 589 = .ok (.invokevirtual 72, 3) := by decide +kernel
theorem dL_law_592 : decode cL_law 592 = .ok (.aload_n 2, 1) := by decide +kernel
theorem dL_law_593 : decode cL_law 593 = .ok (.aload_n 0, 1) := by decide +kernel
theorem dL_law_594 : decode cL_law 594 = .ok (.iload_n 3, 1) := by decide +kernel
theorem dL_law_595 : decode cL_law 595 = .ok (.iconst 1, 1) := by decide +kernel
theorem dL_law_596 : decode cL_law 596 = .ok (.iadd, 1) := by decide +kernel
theorem dL_law_597 : decode cL_law 597 = .ok (.iaload, 1) := by decide +kernel
theorem dL_law_598 : decode cL_law 598 = .ok (.aload_n 0, 1) := by decide +kernel
theorem dL_law_599 : decode cL_law 599 = .ok (.iload_n 3, 1) := by decide +kernel
theorem dL_law_600 : decode cL_law 600 = .ok (.iconst 2, 1) := by decide +kernel
theorem dL_law_601 : decode cL_law 601 = .ok (.iadd, 1) := by decide +kernel
theorem dL_law_602 : decode cL_law 602 = .ok (.iaload, 1) := by decide +kernel
theorem dL_law_603 : decode cL_law 603 = .ok (.invokevirtual 75, 3) := by decide +kernel
theorem dL_law_606 : decode cL_law 606 = .ok (.if_icmp .eq 251, 3) := by decide +kernel
theorem dL_law_609 : decode cL_law 609 = .ok (.iconst 0, 1) := by decide +kernel
theorem dL_law_610 : decode cL_law 610 = .ok (.ireturn, 1) := by decide +kernel
theorem dL_law_611 : decode cL_law 611 = .ok (.aload_n 1, 1) := by decide +kernel
theorem dL_law_612 : decode cL_law 612 = .ok (.aload_n 0, 1) := by decide +kernel
theorem dL_law_613 : decode cL_law 613 = .ok (.iload_n 3, 1) := by decide +kernel
theorem dL_law_614 : decode cL_law 614 = .ok (.iconst 1, 1) := by decide +kernel
theorem dL_law_615 : decode cL_law 615 = .ok (.iadd, 1) := by decide +kernel
theorem dL_law_616 : decode cL_law 616 = .ok (.iaload, 1) := by decide +kernel
theorem dL_law_617 : decode cL_law 617 = .ok (.invokevirtual 76, 3) := by decide +kernel
theorem dL_law_620 : decode cL_law 620 = .ok (.aload_n 2, 1) := by decide +kernel
theorem dL_law_621 : decode cL_law 621 = .ok (.aload_n 0, 1) := by decide +kernel
theorem dL_law_622 : decode cL_law 622 = .ok (.iload_n 3, 1) := by decide +kernel
theorem dL_law_623 : decode cL_law 623 = .ok (.iconst 1, 1) := by decide +kernel
theorem dL_law_624 : decode cL_law 624 = .ok (.iadd, 1) := by decide +kernel
theorem dL_law_625 : decode cL_law 625 = .ok (.iaload, 1) := by decide +kernel
theorem dL_law_626 : decode cL_law 626 = .ok (.invokevirtual 79, 3) := by decide +kernel
theorem dL_law_629 : decode cL_law 629 = .ok (.if_icmp .eq 228, 3) := by decide +kernel
theorem dL_law_632 : decode cL_law 632 = .ok (.iconst 0, 1) := by decide +kernel
theorem dL_law_633 : decode cL_law 633 = .ok (.ireturn, 1) := by decide +kernel
theorem dL_law_634 : decode cL_law 634 = .ok (.aload_n 1, 1) := by decide +kernel
theorem dL_law_635 : decode cL_law 635 = .ok (.aload_n 0, 1) := by decide +kernel
theorem dL_law_636 : decode cL_law 636 = .ok (.iload_n 3, 1) := by decide +kernel
theorem dL_law_637 : decode cL_law 637 = .ok (.iconst 1, 1) := by decide +kernel
theorem dL_law_638 : decode cL_law 638 = .ok (.iadd, 1) := by decide +kernel
theorem dL_law_639 : decode cL_law 639 = .ok (.iaload, 1) := by decide +kernel
theorem dL_law_640 : decode cL_law 640 = .ok (.aload_n 0, 1) := by decide +kernel
theorem dL_law_641 : decode cL_law 641 = .ok (.iload_n 3, 1) := by decide +kernel
theorem dL_law_642 : decode cL_law 642 = .ok (.iconst 2, 1) := by decide +kernel
theorem dL_law_643 : decode cL_law 643 = .ok (.iadd, 1) := by decide +kernel
theorem dL_law_644 : decode cL_law 644 = .ok (.iaload, 1) := by decide +kernel
theorem dL_law_645 : decode cL_law 645 = .ok (.invokevirtual 80, 3) := by decide +kernel
theorem dL_law_648 : decode cL_law 648 = .ok (.aload_n 2, 1) := by decide +kernel
theorem dL_law_649 : decode cL_law 649 = .ok (.aload_n 0, 1) := by decide +kernel
theorem dL_law_650 : decode cL_law 650 = .ok (.iload_n 3, 1) := by decide +kernel
theorem dL_law_651 : decode cL_law 651 = .ok (.iconst 1, 1) := by decide +kernel
theorem dL_law_652 : decode cL_law 652 = .ok (.iadd, 1) := by decide +kernel
theorem dL_law_653 : decode cL_law 653 = .ok (.iaload, 1) := by decide +kernel
theorem dL_law_654 : decode cL_law 654 = .ok (.aload_n 0, 1) := by decide +kernel
theorem dL_law_655 : decode cL_law 655 = .ok (.iload_n 3, 1) := by decide +kernel
theorem dL_law_656 : decode cL_law 656 = .ok (.iconst 2, 1) := by decide +kernel
theorem dL_law_657 : decode cL_law 657 = .ok (.iadd, 1) := by decide +kernel
theorem dL_law_658 : decode cL_law 658 = .ok (.iaload, 1) := by decide +kernel
theorem dL_law_659 : decode cL_law 659 = .ok (.invokevirtual 83, 3) := by decide +kernel
theorem dL_law_662 : decode cL_law 662 = .ok (.if_icmp .eq 195, 3) := by decide +kernel
theorem dL_law_665 : decode cL_law 665 = .ok (.iconst 0, 1) := by decide +kernel
theorem dL_law_666 : decode cL_law 666 = .ok (.ireturn, 1) := by decide +kernel
theorem dL_law_667 : decode cL_law 667 = .ok (.aload_n 1, 1) := by decide +kernel
theorem dL_law_668 : decode cL_law 668 = .ok (.aload_n 0, 1) := by decide +kernel
theorem dL_law_669 : decode cL_law 669 = .ok (.iload_n 3, 1) := by decide +kernel
theorem dL_law_670 : decode cL_law 670 = .ok (.iconst 1, 1) := by decide +kernel
theorem dL_law_671 : decode cL_law 671 = .ok (.iadd, 1) := by decide +kernel
theorem dL_law_672 : decode cL_law 672 = .ok (.iaload, 1) := by decide +kernel
theorem dL_law_673 : decode cL_law 673 = .ok (.aload_n 0, 1) := by decide +kernel
theorem dL_law_674 : decode cL_law 674 = .ok (.iload_n 3, 1) := by decide +kernel
theorem dL_law_675 : decode cL_law 675 = .ok (.iconst 2, 1) := by decide +kernel
theorem dL_law_676 : decode cL_law 676 = .ok (.iadd, 1) := by decide +kernel
theorem dL_law_677 : decode cL_law 677 = .ok (.iaload, 1) := by decide +kernel
theorem dL_law_678 : decode cL_law 678 = .ok (.invokevirtual 84, 3) := by decide +kernel
theorem dL_law_681 : decode cL_law 681 = .ok (.aload_n 2, 1) := by decide +kernel
theorem dL_law_682 : decode cL_law 682 = .ok (.aload_n 0, 1) := by decide +kernel
theorem dL_law_683 : decode cL_law 683 = .ok (.iload_n 3, 1) := by decide +kernel
theorem dL_law_684 : decode cL_law 684 = .ok (.iconst 1, 1) := by decide +kernel
theorem dL_law_685 : decode cL_law 685 = .ok (.iadd, 1) := by decide +kernel
theorem dL_law_686 : decode cL_law 686 = .ok (.iaload, 1) := by decide +kernel
theorem dL_law_687 : decode cL_law 687 = .ok (.aload_n 0, 1) := by decide +kernel
theorem dL_law_688 : decode cL_law 688 = .ok (.iload_n 3, 1) := by decide +kernel
theorem dL_law_689 : decode cL_law 689 = .ok (.iconst 2, 1) := by decide +kernel
theorem dL_law_690 : decode cL_law 690 = .ok (.iadd, 1) := by decide +kernel
theorem dL_law_691 : decode cL_law 691 = .ok (.iaload, 1) := by decide +kernel
theorem dL_law_692 : decode cL_law 692 = .ok (.invokevirtual 87, 3) := by decide +kernel
theorem dL_law_695 : decode cL_law 695 = .ok (.if_icmp .eq 162, 3) := by decide +kernel
theorem dL_law_698 : decode cL_law 698 = .ok (.iconst 0, 1) := by decide +kernel
theorem dL_law_699 : decode cL_law 699 = .ok (.ireturn, 1) := by decide +kernel
theorem dL_law_700 : decode cL_law 700 = .ok (.aload_n 1, 1) := by decide +kernel
theorem dL_law_701 : decode cL_law 701 = .ok (.aload_n 0, 1) := by decide +kernel
theorem dL_law_702 : decode cL_law 702 = .ok (.iload_n 3, 1) := by decide +kernel
theorem dL_law_703 : decode cL_law 703 = .ok (.iconst 1, 1) := by decide +kernel
theorem dL_law_704 : decode cL_law 704 = .ok (.iadd, 1) := by decide +kernel
theorem dL_law_705 : decode cL_law 705 = .ok (.iaload, 1) := by decide +kernel
theorem dL_law_706 : decode cL_law 706 = .ok (.invokevirtual 88, 3) := by decide +kernel
theorem dL_law_709 : decode cL_law 709 = .ok (.aload_n 2, 1) := by decide +kernel
theorem dL_law_710 : decode cL_law 710 = .ok (.aload_n 0, 1) := by decide +kernel
theorem dL_law_711 : decode cL_law 711 = .ok (.iload_n 3, 1) := by decide +kernel
theorem dL_law_712 : decode cL_law 712 = .ok (.iconst 1, 1) := by decide +kernel
theorem dL_law_713 : decode cL_law 713 = .ok (.iadd, 1) := by decide +kernel
theorem dL_law_714 : decode cL_law 714 = .ok (.iaload, 1) := by decide +kernel
theorem dL_law_715 : decode cL_law 715 = .ok (.invokevirtual 91, 3) := by decide +kernel
theorem dL_law_718 : decode cL_law 718 = .ok (.if_icmp .eq 139, 3) := by decide +kernel
theorem dL_law_721 : decode cL_law 721 = .ok (.iconst 0, 1) := by decide +kernel
theorem dL_law_722 : decode cL_law 722 = .ok (.ireturn, 1) := by decide +kernel
theorem dL_law_723 : decode cL_law 723 = .ok (.aload_n 1, 1) := by decide +kernel
theorem dL_law_724 : decode cL_law 724 = .ok (.invokevirtual 92, 3) := by decide +kernel
theorem dL_law_727 : decode cL_law 727 = .ok (.aload_n 2, 1) := by decide +kernel
theorem dL_law_728 : decode cL_law 728 = .ok (.invokevirtual 96, 3) := by decide +kernel
theorem dL_law_731 : decode cL_law 731 = .ok (.if_icmp .eq 126, 3) := by decide +kernel
theorem dL_law_734 : decode cL_law 734 = .ok (.iconst 0, 1) := by decide +kernel
theorem dL_law_735 : decode cL_law 735 = .ok (.ireturn, 1) := by decide +kernel
theorem dL_law_736 : decode cL_law 736 = .ok (.aload_n 1, 1) := by decide +kernel
theorem dL_law_737 : decode cL_law 737 = .ok (.invokevirtual 97, 3) := by decide +kernel
theorem dL_law_740 : decode cL_law 740 = .ok (.aload_n 2, 1) := by decide +kernel
theorem dL_law_741 : decode cL_law 741 = .ok (.invokevirtual 100, 3) := by decide +kernel
theorem dL_law_744 : decode cL_law 744 = .ok (.if_icmp .eq 113, 3) := by decide +kernel
theorem dL_law_747 : decode cL_law 747 = .ok (.iconst 0, 1) := by decide +kernel
theorem dL_law_748 : decode cL_law 748 = .ok (.ireturn, 1) := by decide +kernel
theorem dL_law_749 : decode cL_law 749 = .ok (.aload_n 1, 1) := by decide +kernel
theorem dL_law_750 : decode cL_law 750 = .ok (.aload_n 0, 1) := by decide +kernel
theorem dL_law_751 : decode cL_law 751 = .ok (.iload_n 3, 1) := by decide +kernel
theorem dL_law_752 : decode cL_law 752 = .ok (.iconst 1, 1) := by decide +kernel
theorem dL_law_753 : decode cL_law 753 = .ok (.iadd, 1) := by decide +kernel
theorem dL_law_754 : decode cL_law 754 = .ok (.iaload, 1) := by decide +kernel
theorem dL_law_755 : decode cL_law 755 = .ok (.invokevirtual 101, 3) := by decide +kernel
theorem dL_law_758 : decode cL_law 758 = .ok (.aload_n 2, 1) := by decide +kernel
theorem dL_law_759 : decode cL_law 759 = .ok (.aload_n 0, 1) := by decide +kernel
theorem dL_law_760 : decode cL_law 760 = .ok (.iload_n 3, 1) := by decide +kernel
theorem dL_law_761 : decode cL_law 761 = .ok (.iconst 1, 1) := by decide +kernel
theorem dL_law_762 : decode cL_law 762 = .ok (.iadd, 1) := by decide +kernel
theorem dL_law_763 : decode cL_law 763 = .ok (.iaload, 1) := by decide +kernel
theorem dL_law_764 : decode cL_law 764 = .ok (.invokevirtual 104, 3) := by decide +kernel
theorem dL_law_767 : decode cL_law 767 = .ok (.if_icmp .eq 90, 3) := by decide +kernel
theorem dL_law_770 : decode cL_law 770 = .ok (.iconst 0, 1) := by decide +kernel
theorem dL_law_771 : decode cL_law 771 = .ok (.ireturn, 1) := by decide +kernel
theorem dL_law_772 : decode cL_law 772 = .ok (.aload_n 1, 1) := by decide +kernel
theorem dL_law_773 : decode cL_law 773 = .ok (.invokevirtual 105, 3) := by decide +kernel
theorem dL_law_776 : decode cL_law 776 = .ok (.aload_n 2, 1) := by decide +kernel
theorem dL_law_777 : decode cL_law 777 = .ok (.invokevirtual 108, 3) := by decide +kernel
theorem dL_law_780 : decode cL_law 780 = .ok (.if_icmp .eq 77, 3) := by decide +kernel
theorem dL_law_783 : decode cL_law 783 = .ok (.iconst 0, 1) := by decide +kernel
theorem dL_law_784 : decode cL_law 784 = .ok (.ireturn, 1) := by decide +kernel
theorem dL_law_785 : decode cL_law 785 = .ok (.aload_n 1, 1) := by decide +kernel
theorem dL_law_786 : decode cL_law 786 = .ok (.aload_n 0, 1) := by decide +kernel
theorem dL_law_787 : decode cL_law 787 = .ok (.iload_n 3, 1) := by decide +kernel
theorem dL_law_788 : decode cL_law 788 = .ok (.iconst 1, 1) := by decide +kernel
theorem dL_law_789 : decode cL_law 789 = .ok (.iadd, 1) := by decide +kernel
theorem dL_law_790 : decode cL_law 790 = .ok (.iaload, 1) := by decide +kernel
theorem dL_law_791 : decode cL_law 791 = .ok (.invokevirtual 109, 3) := by decide +kernel
theorem dL_law_794 : decode cL_law 794 = .ok (.aload_n 2, 1) := by decide +kernel
theorem dL_law_795 : decode cL_law 795 = .ok (.aload_n 0, 1) := by decide +kernel
theorem dL_law_796 : decode cL_law 796 = .ok (.iload_n 3, 1) := by decide +kernel
theorem dL_law_797 : decode cL_law 797 = .ok (.iconst 1, 1) := by decide +kernel
theorem dL_law_798 : decode cL_law 798 = .ok (.iadd, 1) := by decide +kernel
theorem dL_law_799 : decode cL_law 799 = .ok (.iaload, 1) := by decide +kernel
theorem dL_law_800 : decode cL_law 800 = .ok (.invokevirtual 112, 3) := by decide +kernel
theorem dL_law_803 : decode cL_law 803 = .ok (.if_icmp .eq 54, 3) := by decide +kernel
theorem dL_law_806 : decode cL_law 806 = .ok (.iconst 0, 1) := by decide +kernel
theorem dL_law_807 : decode cL_law 807 = .ok (.ireturn, 1) := by decide +kernel
theorem dL_law_808 : decode cL_law 808 = .ok (.aload_n 1, 1) := by decide +kernel
theorem dL_law_809 : decode cL_law 809 = .ok (.invokevirtual 113, 3) := by decide +kernel
theorem dL_law_812 : decode cL_law 812 = .ok (.aload_n 2, 1) := by decide +kernel
theorem dL_law_813 : decode cL_law 813 = .ok (.invokevirtual 116, 3) := by decide +kernel
theorem dL_law_816 : decode cL_law 816 = .ok (.if_icmp .eq 41, 3) := by decide +kernel
theorem dL_law_819 : decode cL_law 819 = .ok (.iconst 0, 1) := by decide +kernel
theorem dL_law_820 : decode cL_law 820 = .ok (.ireturn, 1) := by decide +kernel
theorem dL_law_821 : decode cL_law 821 = .ok (.aload_n 1, 1) := by decide +kernel
theorem dL_law_822 : decode cL_law 822 = .ok (.aload_n 0, 1) := by decide +kernel
theorem dL_law_823 : decode cL_law 823 = .ok (.iload_n 3, 1) := by decide +kernel
theorem dL_law_824 : decode cL_law 824 = .ok (.iconst 1, 1) := by decide +kernel
theorem dL_law_825 : decode cL_law 825 = .ok (.iadd, 1) := by decide +kernel
theorem dL_law_826 : decode cL_law 826 = .ok (.iaload, 1) := by decide +kernel
theorem dL_law_827 : decode cL_law 827 = .ok (.invokevirtual 117, 3) := by decide +kernel
theorem dL_law_830 : decode cL_law 830 = .ok (.aload_n 2, 1) := by decide +kernel
theorem dL_law_831 : decode cL_law 831 = .ok (.aload_n 0, 1) := by decide +kernel
theorem dL_law_832 : decode cL_law 832 = .ok (.iload_n 3, 1) := by decide +kernel
theorem dL_law_833 : decode cL_law 833 = .ok (.iconst 1, 1) := by decide +kernel
theorem dL_law_834 : decode cL_law 834 = .ok (.iadd, 1) := by decide +kernel
theorem dL_law_835 : decode cL_law 835 = .ok (.iaload, 1) := by decide +kernel
theorem dL_law_836 : decode cL_law 836 = .ok (.invokevirtual 120, 3) := by decide +kernel
theorem dL_law_839 : decode cL_law 839 = .ok (.if_icmp .eq 18, 3) := by decide +kernel
theorem dL_law_842 : decode cL_law 842 = .ok (.iconst 0, 1) := by decide +kernel
theorem dL_law_843 : decode cL_law 843 = .ok (.ireturn, 1) := by decide +kernel
theorem dL_law_844 : decode cL_law 844 = .ok (.aload_n 1, 1) := by decide +kernel
theorem dL_law_845 : decode cL_law 845 = .ok (.invokevirtual 121, 3) := by decide +kernel
theorem dL_law_848 : decode cL_law 848 = .ok (.aload_n 2, 1) := by decide +kernel
theorem dL_law_849 : decode cL_law 849 = .ok (.invokevirtual 124, 3) := by decide +kernel
theorem dL_law_852 : decode cL_law 852 = .ok (.if_icmp .eq 5, 3) := by decide +kernel
theorem dL_law_855 : decode cL_law 855 = .ok (.iconst 0, 1) := by decide +kernel
theorem dL_law_856 : decode cL_law 856 = .ok (.ireturn, 1) := by decide +kernel
theorem dL_law_857 : decode cL_law 857 = .ok (.iinc 3 4, 3) := by decide +kernel
theorem dL_law_860 : decode cL_law 860 = .ok (.goto (-842), 3) := by decide +kernel
theorem dL_law_863 : decode cL_law 863 = .ok (.iconst 1, 1) := by decide +kernel
theorem dL_law_864 : decode cL_law 864 = .ok (.ireturn, 1) := by decide +kernel
