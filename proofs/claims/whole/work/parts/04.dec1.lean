theorem dX3_seenAside_26 : decode cX3_seenAside 26 = .ok (.getfield 9, 3) := by decide +kernel
theorem dX3_seenAside_29 : decode cX3_seenAside 29 = .ok (.iload_n 2, 1) := by decide +kernel
theorem dX3_seenAside_30 : decode cX3_seenAside 30 = .ok (.iaload, 1) := by decide +kernel
theorem dX3_seenAside_31 : decode cX3_seenAside 31 = .ok (.aload_n 0, 1) := by decide +kernel
theorem dX3_seenAside_32 : decode cX3_seenAside 32 = .ok (.getfield 9, 3) := by decide +kernel
theorem dX3_seenAside_35 : decode cX3_seenAside 35 = .ok (.iload_n 1, 1) := by decide +kernel
theorem dX3_seenAside_36 : decode cX3_seenAside 36 = .ok (.iaload, 1) := by decide +kernel
theorem dX3_seenAside_37 : decode cX3_seenAside 37 = .ok (.if_icmp .ge 5, 3) := by decide +kernel
theorem dX3_seenAside_40 : decode cX3_seenAside 40 = .ok (.iconst 0, 1) := by decide +kernel
theorem dX3_seenAside_41 : decode cX3_seenAside 41 = .ok (.ireturn, 1) := by decide +kernel
theorem dX3_seenAside_42 : decode cX3_seenAside 42 = .ok (.iinc 2 1, 3) := by decide +kernel
theorem dX3_seenAside_45 : decode cX3_seenAside 45 = .ok (.goto (-43), 3) := by decide +kernel
theorem dX3_seenAside_48 : decode cX3_seenAside 48 = .ok (.iconst 2, 1) := by decide +kernel
theorem dX3_seenAside_49 : decode cX3_seenAside 49 = .ok (.ireturn, 1) := by decide +kernel
theorem dX3_angleAfter_0 : decode cX3_angleAfter 0 = .ok (.aload_n 0, 1) := by decide +kernel
theorem dX3_angleAfter_1 : decode cX3_angleAfter 1 = .ok (.getfield 18, 3) := by decide +kernel
theorem dX3_angleAfter_4 : decode cX3_angleAfter 4 = .ok (.iload_n 1, 1) := by decide +kernel
theorem dX3_angleAfter_5 : decode cX3_angleAfter 5 = .ok (.iaload, 1) := by decide +kernel
theorem dX3_angleAfter_6 : decode cX3_angleAfter 6 = .ok (.aload_n 0, 1) := by decide +kernel
theorem dX3_angleAfter_7 : decode cX3_angleAfter 7 = .ok (.getfield 21, 3) := by decide +kernel
theorem dX3_angleAfter_10 : decode cX3_angleAfter 10 = .ok (.iload_n 1, 1) := by decide +kernel
theorem dX3_angleAfter_11 : decode cX3_angleAfter 11 = .ok (.iaload, 1) := by decide +kernel
theorem dX3_angleAfter_12 : decode cX3_angleAfter 12 = .ok (.iload_n 2, 1) := by decide +kernel
theorem dX3_angleAfter_13 : decode cX3_angleAfter 13 = .ok (.imul, 1) := by decide +kernel
theorem dX3_angleAfter_14 : decode cX3_angleAfter 14 = .ok (.iadd, 1) := by decide +kernel
theorem dX3_angleAfter_15 : decode cX3_angleAfter 15 = .ok (.bipush 12, 2) := by decide +kernel
theorem dX3_angleAfter_17 : decode cX3_angleAfter 17 = .ok (.irem, 1) := by decide +kernel
theorem dX3_angleAfter_18 : decode cX3_angleAfter 18 = .ok (.ireturn, 1) := by decide +kernel
theorem dX3_seenAfter_0 : decode cX3_seenAfter 0 = .ok (.aload_n 0, 1) := by decide +kernel
theorem dX3_seenAfter_1 : decode cX3_seenAfter 1 = .ok (.iload_n 1, 1) := by decide +kernel
theorem dX3_seenAfter_2 : decode cX3_seenAfter 2 = .ok (.iload_n 2, 1) := by decide +kernel
theorem dX3_seenAfter_3 : decode cX3_seenAfter 3 = .ok (.invokevirtual 41, 3) := by decide +kernel
theorem dX3_seenAfter_6 : decode cX3_seenAfter 6 = .ok (.aload_n 0, 1) := by decide +kernel
theorem dX3_seenAfter_7 : decode cX3_seenAfter 7 = .ok (.iload_n 1, 1) := by decide +kernel
theorem dX3_seenAfter_8 : decode cX3_seenAfter 8 = .ok (.invokevirtual 45, 3) := by decide +kernel
theorem dX3_seenAfter_11 : decode cX3_seenAfter 11 = .ok (.invokestatic 49, 3) := by decide +kernel
theorem dX3_seenAfter_14 : decode cX3_seenAfter 14 = .ok (.ireturn, 1) := by decide +kernel
theorem dX3_watch_0 : decode cX3_watch 0 = .ok (.aload_n 0, 1) := by decide +kernel
theorem dX3_watch_1 : decode cX3_watch 1 = .ok (.iload_n 1, 1) := by decide +kernel
theorem dX3_watch_2 : decode cX3_watch 2 = .ok (.invokevirtual 45, 3) := by decide +kernel
theorem dX3_watch_5 : decode cX3_watch 5 = .ok (.istore 4, 2) := by decide +kernel
theorem dX3_watch_7 : decode cX3_watch 7 = .ok (.iconst 0, 1) := by decide +kernel
theorem dX3_watch_8 : decode cX3_watch 8 = .ok (.iload_n 3, 1) := by decide +kernel
theorem dX3_watch_9 : decode cX3_watch 9 = .ok (.bipush 12, 2) := by decide +kernel
theorem dX3_watch_11 : decode cX3_watch 11 = .ok (.isub, 1) := by decide +kernel
theorem dX3_watch_12 : decode cX3_watch 12 = .ok (.invokestatic 52, 3) := by decide +kernel
theorem dX3_watch_15 : decode cX3_watch 15 = .ok (.istore 5, 2) := by decide +kernel
theorem dX3_watch_17 : decode cX3_watch 17 = .ok (.iload 5, 2) := by decide +kernel
theorem dX3_watch_19 : decode cX3_watch 19 = .ok (.iload_n 3, 1) := by decide +kernel
theorem dX3_watch_20 : decode cX3_watch 20 = .ok (.if_icmp .ge 65, 3) := by decide +kernel
theorem dX3_watch_23 : decode cX3_watch 23 = .ok (.aload_n 0, 1) := by decide +kernel
theorem dX3_watch_24 : decode cX3_watch 24 = .ok (.iload_n 1, 1) := by decide +kernel
theorem dX3_watch_25 : decode cX3_watch 25 = .ok (.iload 5, 2) := by decide +kernel
theorem dX3_watch_27 : decode cX3_watch 27 = .ok (.invokevirtual 41, 3) := by decide +kernel
theorem dX3_watch_30 : decode cX3_watch 30 = .ok (.iload 4, 2) := by decide +kernel
theorem dX3_watch_32 : decode cX3_watch 32 = .ok (.invokestatic 49, 3) := by decide +kernel
theorem dX3_watch_35 : decode cX3_watch 35 = .ok (.istore 6, 2) := by decide +kernel
theorem dX3_watch_37 : decode cX3_watch 37 = .ok (.iconst 0, 1) := by decide +kernel
theorem dX3_watch_38 : decode cX3_watch 38 = .ok (.istore 7, 2) := by decide +kernel
theorem dX3_watch_40 : decode cX3_watch 40 = .ok (.iload 7, 2) := by decide +kernel
theorem dX3_watch_42 : decode cX3_watch 42 = .ok (.bipush 12, 2) := by decide +kernel
theorem dX3_watch_44 : decode cX3_watch 44 = .ok (.if_icmp .ge 35, 3) := by decide +kernel
theorem dX3_watch_47 : decode cX3_watch 47 = .ok (.iload 6, 2) := by decide +kernel
theorem dX3_watch_49 : decode cX3_watch 49 = .ok (.iload 7, 2) := by decide +kernel
theorem dX3_watch_51 : decode cX3_watch 51 = .ok (.invokestatic 57, 3) := by decide +kernel
theorem dX3_watch_54 : decode cX3_watch 54 = .ok (.ifCond .eq 19, 3) := by decide +kernel
theorem dX3_watch_57 : decode cX3_watch 57 = .ok (.aload_n 0, 1) := by decide +kernel
theorem dX3_watch_58 : decode cX3_watch 58 = .ok (.getfield 30, 3) := by decide +kernel
theorem dX3_watch_61 : decode cX3_watch 61 = .ok (.iload_n 1, 1) := by decide +kernel
theorem dX3_watch_62 : decode cX3_watch 62 = .ok (.bipush 12, 2) := by decide +kernel
theorem dX3_watch_64 : decode cX3_watch 64 = .ok (.imul, 1) := by decide +kernel
theorem dX3_watch_65 : decode cX3_watch 65 = .ok (.iload 7, 2) := by decide +kernel
theorem dX3_watch_67 : decode cX3_watch 67 = .ok (.iadd, 1) := by decide +kernel
theorem dX3_watch_68 : decode cX3_watch 68 = .ok (.iload_n 2, 1) := by decide +kernel
theorem dX3_watch_69 : decode cX3_watch 69 = .ok (.iload 5, 2) := by decide +kernel
theorem dX3_watch_71 : decode cX3_watch 71 = .ok (.iadd, 1) := by decide +kernel
theorem dX3_watch_72 : decode cX3_watch 72 = .ok (.iastore, 1) := by decide +kernel
theorem dX3_watch_73 : decode cX3_watch 73 = .ok (.iinc 7 1, 3) := by decide +kernel
theorem dX3_watch_76 : decode cX3_watch 76 = .ok (.goto (-36), 3) := by decide +kernel
theorem dX3_watch_79 : decode cX3_watch 79 = .ok (.iinc 5 1, 3) := by decide +kernel
theorem dX3_watch_82 : decode cX3_watch 82 = .ok (.goto (-65), 3) := by decide +kernel
theorem dX3_watch_85 : decode cX3_watch 85 = .ok (.return_, 1) := by decide +kernel
theorem dX3_features_0 : decode cX3_features 0 = .ok (.iconst 0, 1) := by decide +kernel
theorem dX3_features_1 : decode cX3_features 1 = .ok (.istore_n 2, 1) := by decide +kernel
theorem dX3_features_2 : decode cX3_features 2 = .ok (.iload_n 1, 1) := by decide +kernel
theorem dX3_features_3 : decode cX3_features 3 = .ok (.ineg, 1) := by decide +kernel
theorem dX3_features_4 : decode cX3_features 4 = .ok (.istore_n 3, 1) := by decide +kernel
theorem dX3_features_5 : decode cX3_features 5 = .ok (.iload_n 3, 1) := by decide +kernel
theorem dX3_features_6 : decode cX3_features 6 = .ok (.iload_n 1, 1) := by decide +kernel
theorem dX3_features_7 : decode cX3_features 7 = .ok (.if_icmp .gt 23, 3) := by decide +kernel
theorem dX3_features_10 : decode cX3_features 10 = .ok (.iload_n 2, 1) := by decide +kernel
theorem dX3_features_11 : decode cX3_features 11 = .ok (.iconst 1, 1) := by decide +kernel
theorem dX3_features_12 : decode cX3_features 12 = .ok (.iload_n 0, 1) := by decide +kernel
theorem dX3_features_13 : decode cX3_features 13 = .ok (.iload_n 3, 1) := by decide +kernel
theorem dX3_features_14 : decode cX3_features 14 = .ok (.iadd, 1) := by decide +kernel
theorem dX3_features_15 : decode cX3_features 15 = .ok (.bipush 12, 2) := by decide +kernel
theorem dX3_features_17 : decode cX3_features 17 = .ok (.iadd, 1) := by decide +kernel
theorem dX3_features_18 : decode cX3_features 18 = .ok (.bipush 12, 2) := by decide +kernel
theorem dX3_features_20 : decode cX3_features 20 = .ok (.irem, 1) := by decide +kernel
theorem dX3_features_21 : decode cX3_features 21 = .ok (.ishl, 1) := by decide +kernel
theorem dX3_features_22 : decode cX3_features 22 = .ok (.ior, 1) := by decide +kernel
theorem dX3_features_23 : decode cX3_features 23 = .ok (.istore_n 2, 1) := by decide +kernel
theorem dX3_features_24 : decode cX3_features 24 = .ok (.iinc 3 1, 3) := by decide +kernel
theorem dX3_features_27 : decode cX3_features 27 = .ok (.goto (-22), 3) := by decide +kernel
theorem dX3_features_30 : decode cX3_features 30 = .ok (.iload_n 2, 1) := by decide +kernel
theorem dX3_features_31 : decode cX3_features 31 = .ok (.ireturn, 1) := by decide +kernel
theorem dX3_turnAll_0 : decode cX3_turnAll 0 = .ok (.iconst 0, 1) := by decide +kernel
theorem dX3_turnAll_1 : decode cX3_turnAll 1 = .ok (.istore_n 2, 1) := by decide +kernel
theorem dX3_turnAll_2 : decode cX3_turnAll 2 = .ok (.iload_n 2, 1) := by decide +kernel
theorem dX3_turnAll_3 : decode cX3_turnAll 3 = .ok (.aload_n 0, 1) := by decide +kernel
theorem dX3_turnAll_4 : decode cX3_turnAll 4 = .ok (.getfield 33, 3) := by decide +kernel
theorem dX3_turnAll_7 : decode cX3_turnAll 7 = .ok (.if_icmp .ge 21, 3) := by decide +kernel
theorem dX3_turnAll_10 : decode cX3_turnAll 10 = .ok (.aload_n 0, 1) := by decide +kernel
theorem dX3_turnAll_11 : decode cX3_turnAll 11 = .ok (.getfield 18, 3) := by decide +kernel
theorem dX3_turnAll_14 : decode cX3_turnAll 14 = .ok (.iload_n 2, 1) := by decide +kernel
theorem dX3_turnAll_15 : decode cX3_turnAll 15 = .ok (.aload_n 0, 1) := by decide +kernel
theorem dX3_turnAll_16 : decode cX3_turnAll 16 = .ok (.iload_n 2, 1) := by decide +kernel
theorem dX3_turnAll_17 : decode cX3_turnAll 17 = .ok (.iload_n 1, 1) := by decide +kernel
theorem dX3_turnAll_18 : decode cX3_turnAll 18 = .ok (.invokevirtual 41, 3) := by decide +kernel
theorem dX3_turnAll_21 : decode cX3_turnAll 21 = .ok (.iastore, 1) := by decide +kernel
theorem dX3_turnAll_22 : decode cX3_turnAll 22 = .ok (.iinc 2 1, 3) := by decide +kernel
theorem dX3_turnAll_25 : decode cX3_turnAll 25 = .ok (.goto (-23), 3) := by decide +kernel
theorem dX3_turnAll_28 : decode cX3_turnAll 28 = .ok (.return_, 1) := by decide +kernel
theorem dX3_rememberedSince_0 : decode cX3_rememberedSince 0 = .ok (.iconst 0, 1) := by decide +kernel
theorem dX3_rememberedSince_1 : decode cX3_rememberedSince 1 = .ok (.istore_n 3, 1) := by decide +kernel
theorem dX3_rememberedSince_2 : decode cX3_rememberedSince 2 = .ok (.iconst 0, 1) := by decide +kernel
theorem dX3_rememberedSince_3 : decode cX3_rememberedSince 3 = .ok (.istore 4, 2) := by decide +kernel
theorem dX3_rememberedSince_5 : decode cX3_rememberedSince 5 = .ok (.iload 4, 2) := by decide +kernel
theorem dX3_rememberedSince_7 : decode cX3_rememberedSince 7 = .ok (.bipush 12, 2) := by decide +kernel
theorem dX3_rememberedSince_9 : decode cX3_rememberedSince 9 = .ok (.if_icmp .ge 42, 3) := by decide +kernel
theorem dX3_rememberedSince_12 : decode cX3_rememberedSince 12 = .ok (.aload_n 0, 1) := by decide +kernel
theorem dX3_rememberedSince_13 : decode cX3_rememberedSince 13 = .ok (.getfield 30, 3) := by decide +kernel
theorem dX3_rememberedSince_16 : decode cX3_rememberedSince 16 = .ok (.iload_n 1, 1) := by decide +kernel
theorem dX3_rememberedSince_17 : decode cX3_rememberedSince 17 = .ok (.bipush 12, 2) := by decide +kernel
theorem dX3_rememberedSince_19 : decode cX3_rememberedSince 19 = .ok (.imul, 1) := by decide +kernel
theorem dX3_rememberedSince_20 : decode cX3_rememberedSince 20 = .ok (.iload 4, 2) := by decide +kernel
theorem dX3_rememberedSince_22 : decode cX3_rememberedSince 22 = .ok (.iadd, 1) := by decide +kernel
theorem dX3_rememberedSince_23 : decode cX3_rememberedSince 23 = .ok (.iaload, 1) := by decide +kernel
theorem dX3_rememberedSince_24 : decode cX3_rememberedSince 24 = .ok (.istore 5, 2) := by decide +kernel
theorem dX3_rememberedSince_26 : decode cX3_rememberedSince 26 = .ok (.iload 5, 2) := by decide +kernel
theorem dX3_rememberedSince_28 : decode cX3_rememberedSince 28 = .ok (.iconst (-1), 1) := by decide +kernel
theorem dX3_rememberedSince_29 : decode cX3_rememberedSince 29 = .ok (.if_icmp .eq 16, 3) := by decide +kernel
theorem dX3_rememberedSince_32 : decode cX3_rememberedSince 32 = .ok (.iload 5, 2) := by decide +kernel
theorem dX3_rememberedSince_34 : decode cX3_rememberedSince 34 = .ok (.iload_n 2, 1) := by decide +kernel
theorem dX3_rememberedSince_35 : decode cX3_rememberedSince 35 = .ok (.if_icmp .lt 10, 3) := by decide +kernel
theorem dX3_rememberedSince_38 : decode cX3_rememberedSince 38 = .ok (.iload_n 3, 1) := by decide +kernel
theorem dX3_rememberedSince_39 : decode cX3_rememberedSince 39 = .ok (.iconst 1, 1) := by decide +kernel
theorem dX3_rememberedSince_40 : decode cX3_rememberedSince 40 = .ok (.iload 4, 2) := by decide +kernel
theorem dX3_rememberedSince_42 : decode cX3_rememberedSince 42 = .ok (.ishl, 1) := by decide +kernel
theorem dX3_rememberedSince_43 : decode cX3_rememberedSince 43 = .ok (.ior, 1) := by decide +kernel
theorem dX3_rememberedSince_44 : decode cX3_rememberedSince 44 = .ok (.istore_n 3, 1) := by decide +kernel
theorem dX3_rememberedSince_45 : decode cX3_rememberedSince 45 = .ok (.iinc 4 1, 3) := by decide +kernel
theorem dX3_rememberedSince_48 : decode cX3_rememberedSince 48 = .ok (.goto (-43), 3) := by decide +kernel
theorem dX3_rememberedSince_51 : decode cX3_rememberedSince 51 = .ok (.iload_n 3, 1) := by decide +kernel
theorem dX3_rememberedSince_52 : decode cX3_rememberedSince 52 = .ok (.ireturn, 1) := by decide +kernel
theorem dX4_init_0 : decode cX4_init 0 = .ok (.aload_n 0, 1) := by decide +kernel
theorem dX4_init_1 : decode cX4_init 1 = .ok (.invokespecial 3, 3) := by decide +kernel
theorem dX4_init_4 : decode cX4_init 4 = .ok (.return_, 1) := by decide +kernel
theorem dX4_run_0 : decode cX4_run 0 = .ok (.aload_n 0, 1) := by decide +kernel
theorem dX4_run_1 : decode cX4_run 1 = .ok (.iconst 0, 1) := by decide +kernel
theorem dX4_run_2 : decode cX4_run 2 = .ok (.putfield 9, 3) := by decide +kernel
theorem dX4_run_5 : decode cX4_run 5 = .ok (.aload_n 0, 1) := by decide +kernel
theorem dX4_run_6 : decode cX4_run 6 = .ok (.iconst (-1), 1) := by decide +kernel
theorem dX4_run_7 : decode cX4_run 7 = .ok (.putfield 15, 3) := by decide +kernel
theorem dX4_run_10 : decode cX4_run 10 = .ok (.iconst 0, 1) := by decide +kernel
theorem dX4_run_11 : decode cX4_run 11 = .ok (.istore_n 3, 1) := by decide +kernel
theorem dX4_run_12 : decode cX4_run 12 = .ok (.aload_n 0, 1) := by decide +kernel
theorem dX4_run_13 : decode cX4_run 13 = .ok (.getfield 9, 3) := by decide +kernel
theorem dX4_run_16 : decode cX4_run 16 = .ok (.bipush 60, 2) := by decide +kernel
theorem dX4_run_18 : decode cX4_run 18 = .ok (.if_icmp .ge 82, 3) := by decide +kernel
theorem dX4_run_21 : decode cX4_run 21 = .ok (.iload_n 3, 1) := by decide +kernel
theorem dX4_run_22 : decode cX4_run 22 = .ok (.aload_n 1, 1) := by decide +kernel
theorem dX4_run_23 : decode cX4_run 23 = .ok (.getfield 18, 3) := by decide +kernel
theorem dX4_run_26 : decode cX4_run 26 = .ok (.if_icmp .ge 74, 3) := by decide +kernel
theorem dX4_run_29 : decode cX4_run 29 = .ok (.aload_n 1, 1) := by decide +kernel
theorem dX4_run_30 : decode cX4_run 30 = .ok (.iload_n 3, 1) := by decide +kernel
theorem dX4_run_31 : decode cX4_run 31 = .ok (.invokevirtual 23, 3) := by decide +kernel
theorem dX4_run_34 : decode cX4_run 34 = .ok (.ifCond .ne 16, 3) := by decide +kernel
theorem dX4_run_37 : decode cX4_run 37 = .ok (.aload_n 0, 1) := by decide +kernel
theorem dX4_run_38 : decode cX4_run 38 = .ok (.iload_n 3, 1) := by decide +kernel
theorem dX4_run_39 : decode cX4_run 39 = .ok (.iconst 1, 1) := by decide +kernel
theorem dX4_run_40 : decode cX4_run 40 = .ok (.aload_n 1, 1) := by decide +kernel
theorem dX4_run_41 : decode cX4_run 41 = .ok (.getfield 27, 3) := by decide +kernel
theorem dX4_run_44 : decode cX4_run 44 = .ok (.iload_n 3, 1) := by decide +kernel
theorem dX4_run_45 : decode cX4_run 45 = .ok (.isub, 1) := by decide +kernel
theorem dX4_run_46 : decode cX4_run 46 = .ok (.invokevirtual 30, 3) := by decide +kernel
theorem dX4_run_49 : decode cX4_run 49 = .ok (.return_, 1) := by decide +kernel
theorem dX4_run_50 : decode cX4_run 50 = .ok (.aload_n 2, 1) := by decide +kernel
theorem dX4_run_51 : decode cX4_run 51 = .ok (.aload_n 1, 1) := by decide +kernel
theorem dX4_run_52 : decode cX4_run 52 = .ok (.getfield 34, 3) := by decide +kernel
theorem dX4_run_55 : decode cX4_run 55 = .ok (.aload_n 1, 1) := by decide +kernel
theorem dX4_run_56 : decode cX4_run 56 = .ok (.getfield 38, 3) := by decide +kernel
theorem dX4_run_59 : decode cX4_run 59 = .ok (.aload_n 1, 1) := by decide +kernel
theorem dX4_run_60 : decode cX4_run 60 = .ok (.getfield 41, 3) := by decide +kernel
theorem dX4_run_63 : decode cX4_run 63 = .ok (.invokevirtual 44, 3) := by decide +kernel
theorem dX4_run_66 : decode cX4_run 66 = .ok (.istore 4, 2) := by decide +kernel
theorem dX4_run_68 : decode cX4_run 68 = .ok (.iload 4, 2) := by decide +kernel
theorem dX4_run_70 : decode cX4_run 70 = .ok (.ifCond .ge 12, 3) := by decide +kernel
theorem dX4_run_73 : decode cX4_run 73 = .ok (.aload_n 0, 1) := by decide +kernel
theorem dX4_run_74 : decode cX4_run 74 = .ok (.iload_n 3, 1) := by decide +kernel
theorem dX4_run_75 : decode cX4_run 75 = .ok (.iconst 2, 1) := by decide +kernel
theorem dX4_run_76 : decode cX4_run 76 = .ok (.iload 4, 2) := by decide +kernel
theorem dX4_run_78 : decode cX4_run 78 = .ok (.invokevirtual 30, 3) := by decide +kernel
theorem dX4_run_81 : decode cX4_run 81 = .ok (.return_, 1) := by decide +kernel
theorem dX4_run_82 : decode cX4_run 82 = .ok (.aload_n 1, 1) := by decide +kernel
theorem dX4_run_83 : decode cX4_run 83 = .ok (.getfield 27, 3) := by decide +kernel
theorem dX4_run_86 : decode cX4_run 86 = .ok (.istore_n 3, 1) := by decide +kernel
theorem dX4_run_87 : decode cX4_run 87 = .ok (.aload_n 0, 1) := by decide +kernel
theorem dX4_run_88 : decode cX4_run 88 = .ok (.dup, 1) := by decide +kernel
theorem dX4_run_89 : decode cX4_run 89 = .ok (.getfield 9, 3) := by decide +kernel
theorem dX4_run_92 : decode cX4_run 92 = .ok (.iconst 1, 1) := by decide +kernel
theorem dX4_run_93 : decode cX4_run 93 = .ok (.iadd, 1) := by decide +kernel
theorem dX4_run_94 : decode cX4_run 94 = .ok (.putfield 9, 3) := by decide +kernel
theorem dX4_run_97 : decode cX4_run 97 = .ok (.goto (-85), 3) := by decide +kernel
theorem dX4_run_100 : decode cX4_run 100 = .ok (.return_, 1) := by decide +kernel
theorem dX4_fail_0 : decode cX4_fail 0 = .ok (.aload_n 0, 1) := by decide +kernel
theorem dX4_fail_1 : decode cX4_fail 1 = .ok (.iload_n 1, 1) := by decide +kernel
theorem dX4_fail_2 : decode cX4_fail 2 = .ok (.putfield 15, 3) := by decide +kernel
theorem dX4_fail_5 : decode cX4_fail 5 = .ok (.aload_n 0, 1) := by decide +kernel
theorem dX4_fail_6 : decode cX4_fail 6 = .ok (.iload_n 2, 1) := by decide +kernel
theorem dX4_fail_7 : decode cX4_fail 7 = .ok (.putfield 50, 3) := by decide +kernel
theorem dX4_fail_10 : decode cX4_fail 10 = .ok (.aload_n 0, 1) := by decide +kernel
theorem dX4_fail_11 : decode cX4_fail 11 = .ok (.iload_n 3, 1) := by decide +kernel
theorem dX4_fail_12 : decode cX4_fail 12 = .ok (.putfield 53, 3) := by decide +kernel
theorem dX4_fail_15 : decode cX4_fail 15 = .ok (.return_, 1) := by decide +kernel
theorem dX5_init_0 : decode cX5_init 0 = .ok (.aload_n 0, 1) := by decide +kernel
theorem dX5_init_1 : decode cX5_init 1 = .ok (.invokespecial 1, 3) := by decide +kernel
theorem dX5_init_4 : decode cX5_init 4 = .ok (.return_, 1) := by decide +kernel
theorem dX6_init_0 : decode cX6_init 0 = .ok (.aload_n 0, 1) := by decide +kernel
theorem dX6_init_1 : decode cX6_init 1 = .ok (.invokespecial 3, 3) := by decide +kernel
theorem dX6_init_4 : decode cX6_init 4 = .ok (.aload_n 0, 1) := by decide +kernel
theorem dX6_init_5 : decode cX6_init 5 = .ok (.bipush 10, 2) := by decide +kernel
theorem dX6_init_7 : decode cX6_init 7 = .ok (.newarray .int, 2) := by decide +kernel
theorem dX6_init_9 : decode cX6_init 9 = .ok (.putfield 9, 3) := by decide +kernel
theorem dX6_init_12 : decode cX6_init 12 = .ok (.aload_n 0, 1) := by decide +kernel
theorem dX6_init_13 : decode cX6_init 13 = .ok (.bipush 10, 2) := by decide +kernel
theorem dX6_init_15 : decode cX6_init 15 = .ok (.newarray .int, 2) := by decide +kernel
theorem dX6_init_17 : decode cX6_init 17 = .ok (.putfield 15, 3) := by decide +kernel
theorem dX6_init_20 : decode cX6_init 20 = .ok (.aload_n 0, 1) := by decide +kernel
theorem dX6_init_21 : decode cX6_init 21 = .ok (.bipush 10, 2) := by decide +kernel
theorem dX6_init_23 : decode cX6_init 23 = .ok (.newarray .int, 2) := by decide +kernel
theorem dX6_init_25 : decode cX6_init 25 = .ok (.putfield 18, 3) := by decide +kernel
theorem dX6_init_28 : decode cX6_init 28 = .ok (.aload_n 0, 1) := by decide +kernel
theorem dX6_init_29 : decode cX6_init 29 = .ok (.bipush 10, 2) := by decide +kernel
theorem dX6_init_31 : decode cX6_init 31 = .ok (.newarray .int, 2) := by decide +kernel
theorem dX6_init_33 : decode cX6_init 33 = .ok (.putfield 21, 3) := by decide +kernel
theorem dX6_init_36 : decode cX6_init 36 = .ok (.return_, 1) := by decide +kernel
theorem dX6_copyFrom_0 : decode cX6_copyFrom 0 = .ok (.aload_n 0, 1) := by decide +kernel
theorem dX6_copyFrom_1 : decode cX6_copyFrom 1 = .ok (.aload_n 1, 1) := by decide +kernel
theorem dX6_copyFrom_2 : decode cX6_copyFrom 2 = .ok (.getfield 24, 3) := by decide +kernel
theorem dX6_copyFrom_5 : decode cX6_copyFrom 5 = .ok (.putfield 24, 3) := by decide +kernel
theorem dX6_copyFrom_8 : decode cX6_copyFrom 8 = .ok (.aload_n 0, 1) := by decide +kernel
theorem dX6_copyFrom_9 : decode cX6_copyFrom 9 = .ok (.aload_n 1, 1) := by decide +kernel
theorem dX6_copyFrom_10 : decode cX6_copyFrom 10 = .ok (.getfield 28, 3) := by decide +kernel
theorem dX6_copyFrom_13 : decode cX6_copyFrom 13 = .ok (.putfield 28, 3) := by decide +kernel
theorem dX6_copyFrom_16 : decode cX6_copyFrom 16 = .ok (.aload_n 1, 1) := by decide +kernel
theorem dX6_copyFrom_17 : decode cX6_copyFrom 17 = .ok (.getfield 9, 3) := by decide +kernel
theorem dX6_copyFrom_20 : decode cX6_copyFrom 20 = .ok (.aload_n 0, 1) := by decide +kernel
theorem dX6_copyFrom_21 : decode cX6_copyFrom 21 = .ok (.getfield 9, 3) := by decide +kernel
theorem dX6_copyFrom_24 : decode cX6_copyFrom 24 = .ok (.invokestatic 31, 3) := by decide +kernel
theorem dX6_copyFrom_27 : decode cX6_copyFrom 27 = .ok (.aload_n 1, 1) := by decide +kernel
theorem dX6_copyFrom_28 : decode cX6_copyFrom 28 = .ok (.getfield 15, 3) := by decide +kernel
theorem dX6_copyFrom_31 : decode cX6_copyFrom 31 = .ok (.aload_n 0, 1) := by decide +kernel
theorem dX6_copyFrom_32 : decode cX6_copyFrom 32 = .ok (.getfield 15, 3) := by decide +kernel
theorem dX6_copyFrom_35 : decode cX6_copyFrom 35 = .ok (.invokestatic 31, 3) := by decide +kernel
theorem dX6_copyFrom_38 : decode cX6_copyFrom 38 = .ok (.aload_n 1, 1) := by decide +kernel
theorem dX6_copyFrom_39 : decode cX6_copyFrom 39 = .ok (.getfield 18, 3) := by decide +kernel
theorem dX6_copyFrom_42 : decode cX6_copyFrom 42 = .ok (.aload_n 0, 1) := by decide +kernel
theorem dX6_copyFrom_43 : decode cX6_copyFrom 43 = .ok (.getfield 18, 3) := by decide +kernel
theorem dX6_copyFrom_46 : decode cX6_copyFrom 46 = .ok (.invokestatic 31, 3) := by decide +kernel
theorem dX6_copyFrom_49 : decode cX6_copyFrom 49 = .ok (.aload_n 1, 1) := by decide +kernel
theorem dX6_copyFrom_50 : decode cX6_copyFrom 50 = .ok (.getfield 21, 3) := by decide +kernel
theorem dX6_copyFrom_53 : decode cX6_copyFrom 53 = .ok (.aload_n 0, 1) := by decide +kernel
theorem dX6_copyFrom_54 : decode cX6_copyFrom 54 = .ok (.getfield 21, 3) := by decide +kernel
theorem dX6_copyFrom_57 : decode cX6_copyFrom 57 = .ok (.invokestatic 31, 3) := by decide +kernel
theorem dX6_copyFrom_60 : decode cX6_copyFrom 60 = .ok (.return_, 1) := by decide +kernel
theorem dX6_placeOf_0 : decode cX6_placeOf 0 = .ok (.iconst 0, 1) := by decide +kernel
theorem dX6_placeOf_1 : decode cX6_placeOf 1 = .ok (.istore_n 2, 1) := by decide +kernel
theorem dX6_placeOf_2 : decode cX6_placeOf 2 = .ok (.iload_n 2, 1) := by decide +kernel
theorem dX6_placeOf_3 : decode cX6_placeOf 3 = .ok (.aload_n 0, 1) := by decide +kernel
theorem dX6_placeOf_4 : decode cX6_placeOf 4 = .ok (.getfield 24, 3) := by decide +kernel
theorem dX6_placeOf_7 : decode cX6_placeOf 7 = .ok (.if_icmp .ge 21, 3) := by decide +kernel
theorem dX6_placeOf_10 : decode cX6_placeOf 10 = .ok (.aload_n 0, 1) := by decide +kernel
theorem dX6_placeOf_11 : decode cX6_placeOf 11 = .ok (.getfield 9, 3) := by decide +kernel
theorem dX6_placeOf_14 : decode cX6_placeOf 14 = .ok (.iload_n 2, 1) := by decide +kernel
theorem dX6_placeOf_15 : decode cX6_placeOf 15 = .ok (.iaload, 1) := by decide +kernel
theorem dX6_placeOf_16 : decode cX6_placeOf 16 = .ok (.iload_n 1, 1) := by decide +kernel
theorem dX6_placeOf_17 : decode cX6_placeOf 17 = .ok (.if_icmp .ne 5, 3) := by decide +kernel
theorem dX6_placeOf_20 : decode cX6_placeOf 20 = .ok (.iload_n 2, 1) := by decide +kernel
theorem dX6_placeOf_21 : decode cX6_placeOf 21 = .ok (.ireturn, 1) := by decide +kernel
theorem dX6_placeOf_22 : decode cX6_placeOf 22 = .ok (.iinc 2 1, 3) := by decide +kernel
theorem dX6_placeOf_25 : decode cX6_placeOf 25 = .ok (.goto (-23), 3) := by decide +kernel
theorem dX6_placeOf_28 : decode cX6_placeOf 28 = .ok (.iconst (-1), 1) := by decide +kernel
theorem dX6_placeOf_29 : decode cX6_placeOf 29 = .ok (.ireturn, 1) := by decide +kernel
theorem dX6_ofPerson_0 : decode cX6_ofPerson 0 = .ok (.iconst 0, 1) := by decide +kernel
theorem dX6_ofPerson_1 : decode cX6_ofPerson 1 = .ok (.istore_n 2, 1) := by decide +kernel
theorem dX6_ofPerson_2 : decode cX6_ofPerson 2 = .ok (.iconst 0, 1) := by decide +kernel
theorem dX6_ofPerson_3 : decode cX6_ofPerson 3 = .ok (.istore_n 3, 1) := by decide +kernel
theorem dX6_ofPerson_4 : decode cX6_ofPerson 4 = .ok (.iload_n 3, 1) := by decide +kernel
theorem dX6_ofPerson_5 : decode cX6_ofPerson 5 = .ok (.aload_n 0, 1) := by decide +kernel
theorem dX6_ofPerson_6 : decode cX6_ofPerson 6 = .ok (.getfield 24, 3) := by decide +kernel
theorem dX6_ofPerson_9 : decode cX6_ofPerson 9 = .ok (.if_icmp .ge 22, 3) := by decide +kernel
theorem dX6_ofPerson_12 : decode cX6_ofPerson 12 = .ok (.aload_n 0, 1) := by decide +kernel
theorem dX6_ofPerson_13 : decode cX6_ofPerson 13 = .ok (.getfield 15, 3) := by decide +kernel
theorem dX6_ofPerson_16 : decode cX6_ofPerson 16 = .ok (.iload_n 3, 1) := by decide +kernel
theorem dX6_ofPerson_17 : decode cX6_ofPerson 17 = .ok (.iaload, 1) := by decide +kernel
theorem dX6_ofPerson_18 : decode cX6_ofPerson 18 = .ok (.iload_n 1, 1) := by decide +kernel
theorem dX6_ofPerson_19 : decode cX6_ofPerson 19 = .ok (.if_icmp .ne 6, 3) := by decide +kernel
theorem dX6_ofPerson_22 : decode cX6_ofPerson 22 = .ok (.iinc 2 1, 3) := by decide +kernel
theorem dX6_ofPerson_25 : decode cX6_ofPerson 25 = .ok (.iinc 3 1, 3) := by decide +kernel
theorem dX6_ofPerson_28 : decode cX6_ofPerson 28 = .ok (.goto (-24), 3) := by decide +kernel
theorem dX6_ofPerson_31 : decode cX6_ofPerson 31 = .ok (.iload_n 2, 1) := by decide +kernel
theorem dX6_ofPerson_32 : decode cX6_ofPerson 32 = .ok (.ireturn, 1) := by decide +kernel
theorem dX6_add_0 : decode cX6_add 0 = .ok (.aload_n 0, 1) := by decide +kernel
theorem dX6_add_1 : decode cX6_add 1 = .ok (.getfield 9, 3) := by decide +kernel
theorem dX6_add_4 : decode cX6_add 4 = .ok (.aload_n 0, 1) := by decide +kernel
theorem dX6_add_5 : decode cX6_add 5 = .ok (.getfield 24, 3) := by decide +kernel
theorem dX6_add_8 : decode cX6_add 8 = .ok (.aload_n 0, 1) := by decide +kernel
theorem dX6_add_9 : decode cX6_add 9 = .ok (.getfield 28, 3) := by decide +kernel
theorem dX6_add_12 : decode cX6_add 12 = .ok (.iastore, 1) := by decide +kernel
theorem dX6_add_13 : decode cX6_add 13 = .ok (.aload_n 0, 1) := by decide +kernel
theorem dX6_add_14 : decode cX6_add 14 = .ok (.getfield 15, 3) := by decide +kernel
theorem dX6_add_17 : decode cX6_add 17 = .ok (.aload_n 0, 1) := by decide +kernel
theorem dX6_add_18 : decode cX6_add 18 = .ok (.getfield 24, 3) := by decide +kernel
theorem dX6_add_21 : decode cX6_add 21 = .ok (.iload_n 1, 1) := by decide +kernel
theorem dX6_add_22 : decode cX6_add 22 = .ok (.iastore, 1) := by decide +kernel
theorem dX6_add_23 : decode cX6_add 23 = .ok (.aload_n 0, 1) := by decide +kernel
theorem dX6_add_24 : decode cX6_add 24 = .ok (.getfield 18, 3) := by decide +kernel
theorem dX6_add_27 : decode cX6_add 27 = .ok (.aload_n 0, 1) := by decide +kernel
theorem dX6_add_28 : decode cX6_add 28 = .ok (.getfield 24, 3) := by decide +kernel
theorem dX6_add_31 : decode cX6_add 31 = .ok (.iconst 0, 1) := by decide +kernel
theorem dX6_add_32 : decode cX6_add 32 = .ok (.iastore, 1) := by decide +kernel
theorem dX6_add_33 : decode cX6_add 33 = .ok (.aload_n 0, 1) := by decide +kernel
theorem dX6_add_34 : decode cX6_add 34 = .ok (.getfield 21, 3) := by decide +kernel
theorem dX6_add_37 : decode cX6_add 37 = .ok (.aload_n 0, 1) := by decide +kernel
theorem dX6_add_38 : decode cX6_add 38 = .ok (.getfield 24, 3) := by decide +kernel
theorem dX6_add_41 : decode cX6_add 41 = .ok (.iconst 0, 1) := by decide +kernel
theorem dX6_add_42 : decode cX6_add 42 = .ok (.iastore, 1) := by decide +kernel
theorem dX6_add_43 : decode cX6_add 43 = .ok (.aload_n 0, 1) := by decide +kernel
theorem dX6_add_44 : decode cX6_add 44 = .ok (.dup, 1) := by decide +kernel
theorem dX6_add_45 : decode cX6_add 45 = .ok (.getfield 24, 3) := by decide +kernel
theorem dX6_add_48 : decode cX6_add 48 = .ok (.iconst 1, 1) := by decide +kernel
theorem dX6_add_49 : decode cX6_add 49 = .ok (.iadd, 1) := by decide +kernel
theorem dX6_add_50 : decode cX6_add 50 = .ok (.putfield 24, 3) := by decide +kernel
theorem dX6_add_53 : decode cX6_add 53 = .ok (.aload_n 0, 1) := by decide +kernel
theorem dX6_add_54 : decode cX6_add 54 = .ok (.dup, 1) := by decide +kernel
theorem dX6_add_55 : decode cX6_add 55 = .ok (.getfield 28, 3) := by decide +kernel
theorem dX6_add_58 : decode cX6_add 58 = .ok (.iconst 1, 1) := by decide +kernel
theorem dX6_add_59 : decode cX6_add 59 = .ok (.iadd, 1) := by decide +kernel
theorem dX6_add_60 : decode cX6_add 60 = .ok (.putfield 28, 3) := by decide +kernel
theorem dX6_add_63 : decode cX6_add 63 = .ok (.aload_n 0, 1) := by decide +kernel
theorem dX6_add_64 : decode cX6_add 64 = .ok (.getfield 28, 3) := by decide +kernel
theorem dX6_add_67 : decode cX6_add 67 = .ok (.iconst 1, 1) := by decide +kernel
theorem dX6_add_68 : decode cX6_add 68 = .ok (.isub, 1) := by decide +kernel
theorem dX6_add_69 : decode cX6_add 69 = .ok (.ireturn, 1) := by decide +kernel
theorem dX6_removeAt_0 : decode cX6_removeAt 0 = .ok (.iload_n 1, 1) := by decide +kernel
theorem dX6_removeAt_1 : decode cX6_removeAt 1 = .ok (.istore_n 2, 1) := by decide +kernel
theorem dX6_removeAt_2 : decode cX6_removeAt 2 = .ok (.iload_n 2, 1) := by decide +kernel
theorem dX6_removeAt_3 : decode cX6_removeAt 3 = .ok (.iconst 1, 1) := by decide +kernel
theorem dX6_removeAt_4 : decode cX6_removeAt 4 = .ok (.iadd, 1) := by decide +kernel
theorem dX6_removeAt_5 : decode cX6_removeAt 5 = .ok (.aload_n 0, 1) := by decide +kernel
theorem dX6_removeAt_6 : decode cX6_removeAt 6 = .ok (.getfield 24, 3) := by decide +kernel
theorem dX6_removeAt_9 : decode cX6_removeAt 9 = .ok (.if_icmp .ge 65, 3) := by decide +kernel
theorem dX6_removeAt_12 : decode cX6_removeAt 12 = .ok (.aload_n 0, 1) := by decide +kernel
theorem dX6_removeAt_13 : decode cX6_removeAt 13 = .ok (.getfield 9, 3) := by decide +kernel
theorem dX6_removeAt_16 : decode cX6_removeAt 16 = .ok (.iload_n 2, 1) := by decide +kernel
theorem dX6_removeAt_17 : decode cX6_removeAt 17 = .ok (.aload_n 0, 1) := by decide +kernel
theorem dX6_removeAt_18 : decode cX6_removeAt 18 = .ok (.getfield 9, 3) := by decide +kernel
theorem dX6_removeAt_21 : decode cX6_removeAt 21 = .ok (.iload_n 2, 1) := by decide +kernel
theorem dX6_removeAt_22 : decode cX6_removeAt 22 = .ok (.iconst 1, 1) := by decide +kernel
theorem dX6_removeAt_23 : decode cX6_removeAt 23 = .ok (.iadd, 1) := by decide +kernel
theorem dX6_removeAt_24 : decode cX6_removeAt 24 = .ok (.iaload, 1) := by decide +kernel
theorem dX6_removeAt_25 : decode cX6_removeAt 25 = .ok (.iastore, 1) := by decide +kernel
theorem dX6_removeAt_26 : decode cX6_removeAt 26 = .ok (.aload_n 0, 1) := by decide +kernel
theorem dX6_removeAt_27 : decode cX6_removeAt 27 = .ok (.getfield 15, 3) := by decide +kernel
theorem dX6_removeAt_30 : decode cX6_removeAt 30 = .ok (.iload_n 2, 1) := by decide +kernel
theorem dX6_removeAt_31 : decode cX6_removeAt 31 = .ok (.aload_n 0, 1) := by decide +kernel
theorem dX6_removeAt_32 : decode cX6_removeAt 32 = .ok (.getfield 15, 3) := by decide +kernel
theorem dX6_removeAt_35 : decode cX6_removeAt 35 = .ok (.iload_n 2, 1) := by decide +kernel
theorem dX6_removeAt_36 : decode cX6_removeAt 36 = .ok (.iconst 1, 1) := by decide +kernel
theorem dX6_removeAt_37 : decode cX6_removeAt 37 = .ok (.iadd, 1) := by decide +kernel
theorem dX6_removeAt_38 : decode cX6_removeAt 38 = .ok (.iaload, 1) := by decide +kernel
theorem dX6_removeAt_39 : decode cX6_removeAt 39 = .ok (.iastore, 1) := by decide +kernel
theorem dX6_removeAt_40 : decode cX6_removeAt 40 = .ok (.aload_n 0, 1) := by decide +kernel
theorem dX6_removeAt_41 : decode cX6_removeAt 41 = .ok (.getfield 18, 3) := by decide +kernel
theorem dX6_removeAt_44 : decode cX6_removeAt 44 = .ok (.iload_n 2, 1) := by decide +kernel
theorem dX6_removeAt_45 : decode cX6_removeAt 45 = .ok (.aload_n 0, 1) := by decide +kernel
theorem dX6_removeAt_46 : decode cX6_removeAt 46 = .ok (.getfield 18, 3) := by decide +kernel
theorem dX6_removeAt_49 : decode cX6_removeAt 49 = .ok (.iload_n 2, 1) := by decide +kernel
theorem dX6_removeAt_50 : decode cX6_removeAt 50 = .ok (.iconst 1, 1) := by decide +kernel
theorem dX6_removeAt_51 : decode cX6_removeAt 51 = .ok (.iadd, 1) := by decide +kernel
theorem dX6_removeAt_52 : decode cX6_removeAt 52 = .ok (.iaload, 1) := by decide +kernel
theorem dX6_removeAt_53 : decode cX6_removeAt 53 = .ok (.iastore, 1) := by decide +kernel
theorem dX6_removeAt_54 : decode cX6_removeAt 54 = .ok (.aload_n 0, 1) := by decide +kernel
theorem dX6_removeAt_55 : decode cX6_removeAt 55 = .ok (.getfield 21, 3) := by decide +kernel
theorem dX6_removeAt_58 : decode cX6_removeAt 58 = .ok (.iload_n 2, 1) := by decide +kernel
theorem dX6_removeAt_59 : decode cX6_removeAt 59 = .ok (.aload_n 0, 1) := by decide +kernel
theorem dX6_removeAt_60 : decode cX6_removeAt 60 = .ok (.getfield 21, 3) := by decide +kernel
theorem dX6_removeAt_63 : decode cX6_removeAt 63 = .ok (.iload_n 2, 1) := by decide +kernel
theorem dX6_removeAt_64 : decode cX6_removeAt 64 = .ok (.iconst 1, 1) := by decide +kernel
theorem dX6_removeAt_65 : decode cX6_removeAt 65 = .ok (.iadd, 1) := by decide +kernel
theorem dX6_removeAt_66 : decode cX6_removeAt 66 = .ok (.iaload, 1) := by decide +kernel
theorem dX6_removeAt_67 : decode cX6_removeAt 67 = .ok (.iastore, 1) := by decide +kernel
theorem dX6_removeAt_68 : decode cX6_removeAt 68 = .ok (.iinc 2 1, 3) := by decide +kernel
theorem dX6_removeAt_71 : decode cX6_removeAt 71 = .ok (.goto (-69), 3) := by decide +kernel
theorem dX6_removeAt_74 : decode cX6_removeAt 74 = .ok (.aload_n 0, 1) := by decide +kernel
theorem dX6_removeAt_75 : decode cX6_removeAt 75 = .ok (.dup, 1) := by decide +kernel
theorem dX6_removeAt_76 : decode cX6_removeAt 76 = .ok (.getfield 24, 3) := by decide +kernel
theorem dX6_removeAt_79 : decode cX6_removeAt 79 = .ok (.iconst 1, 1) := by decide +kernel
theorem dX6_removeAt_80 : decode cX6_removeAt 80 = .ok (.isub, 1) := by decide +kernel
theorem dX6_removeAt_81 : decode cX6_removeAt 81 = .ok (.putfield 24, 3) := by decide +kernel
theorem dX6_removeAt_84 : decode cX6_removeAt 84 = .ok (.return_, 1) := by decide +kernel
theorem dX7_init_0 : decode cX7_init 0 = .ok (.aload_n 0, 1) := by decide +kernel
theorem dX7_init_1 : decode cX7_init 1 = .ok (.invokespecial 3, 3) := by decide +kernel
theorem dX7_init_4 : decode cX7_init 4 = .ok (.aload_n 0, 1) := by decide +kernel
theorem dX7_init_5 : decode cX7_init 5 = .ok (.bipush 60, 2) := by decide +kernel
theorem dX7_init_7 : decode cX7_init 7 = .ok (.newarray .char, 2) := by decide +kernel
theorem dX7_init_9 : decode cX7_init 9 = .ok (.putfield 9, 3) := by decide +kernel
theorem dX7_init_12 : decode cX7_init 12 = .ok (.return_, 1) := by decide +kernel
theorem dX7_append_0 : decode cX7_append 0 = .ok (.iload_n 1, 1) := by decide +kernel
theorem dX7_append_1 : decode cX7_append 1 = .ok (.bipush 32, 2) := by decide +kernel
theorem dX7_append_3 : decode cX7_append 3 = .ok (.bipush 126, 2) := by decide +kernel
theorem dX7_append_5 : decode cX7_append 5 = .ok (.invokestatic 15, 3) := by decide +kernel
theorem dX7_append_8 : decode cX7_append 8 = .ok (.ifCond .ne 6, 3) := by decide +kernel
theorem dX7_append_11 : decode cX7_append 11 = .ok (.ldc 19, 2) := by decide +kernel
theorem dX7_append_13 : decode cX7_append 13 = .ok (.ireturn, 1) := by decide +kernel
theorem dX7_append_14 : decode cX7_append 14 = .ok (.aload_n 0, 1) := by decide +kernel
theorem dX7_append_15 : decode cX7_append 15 = .ok (.getfield 20, 3) := by decide +kernel
theorem dX7_append_18 : decode cX7_append 18 = .ok (.bipush 60, 2) := by decide +kernel
theorem dX7_append_20 : decode cX7_append 20 = .ok (.if_icmp .lt 6, 3) := by decide +kernel
theorem dX7_append_23 : decode cX7_append 23 = .ok (.ldc 24, 2) := by decide +kernel
theorem dX7_append_25 : decode cX7_append 25 = .ok (.ireturn, 1) := by decide +kernel
theorem dX7_append_26 : decode cX7_append 26 = .ok (.aload_n 0, 1) := by decide +kernel
theorem dX7_append_27 : decode cX7_append 27 = .ok (.getfield 9, 3) := by decide +kernel
theorem dX7_append_30 : decode cX7_append 30 = .ok (.aload_n 0, 1) := by decide +kernel
theorem dX7_append_31 : decode cX7_append 31 = .ok (.getfield 20, 3) := by decide +kernel
theorem dX7_append_34 : decode cX7_append 34 = .ok (.iload_n 1, 1) := by decide +kernel
theorem dX7_append_35 : decode cX7_append 35 = .ok (.i2c, 1) := by decide +kernel
theorem dX7_append_36 : decode cX7_append 36 = .ok (.castore, 1) := by decide +kernel
theorem dX7_append_37 : decode cX7_append 37 = .ok (.aload_n 0, 1) := by decide +kernel
theorem dX7_append_38 : decode cX7_append 38 = .ok (.dup, 1) := by decide +kernel
theorem dX7_append_39 : decode cX7_append 39 = .ok (.getfield 20, 3) := by decide +kernel
theorem dX7_append_42 : decode cX7_append 42 = .ok (.iconst 1, 1) := by decide +kernel
theorem dX7_append_43 : decode cX7_append 43 = .ok (.iadd, 1) := by decide +kernel
theorem dX7_append_44 : decode cX7_append 44 = .ok (.putfield 20, 3) := by decide +kernel
theorem dX7_append_47 : decode cX7_append 47 = .ok (.aload_n 0, 1) := by decide +kernel
theorem dX7_append_48 : decode cX7_append 48 = .ok (.getfield 20, 3) := by decide +kernel
theorem dX7_append_51 : decode cX7_append 51 = .ok (.ireturn, 1) := by decide +kernel
theorem dX7_readOrder_0 : decode cX7_readOrder 0 = .ok (.aload_n 0, 1) := by decide +kernel
theorem dX7_readOrder_1 : decode cX7_readOrder 1 = .ok (.iload_n 1, 1) := by decide +kernel
theorem dX7_readOrder_2 : decode cX7_readOrder 2 = .ok (.putfield 25, 3) := by decide +kernel
theorem dX7_readOrder_5 : decode cX7_readOrder 5 = .ok (.aload_n 0, 1) := by decide +kernel
theorem dX7_readOrder_6 : decode cX7_readOrder 6 = .ok (.aload_n 0, 1) := by decide +kernel
theorem dX7_readOrder_7 : decode cX7_readOrder 7 = .ok (.invokevirtual 28, 3) := by decide +kernel
theorem dX7_readOrder_10 : decode cX7_readOrder 10 = .ok (.putfield 32, 3) := by decide +kernel
theorem dX7_readOrder_13 : decode cX7_readOrder 13 = .ok (.aload_n 0, 1) := by decide +kernel
theorem dX7_readOrder_14 : decode cX7_readOrder 14 = .ok (.getfield 32, 3) := by decide +kernel
theorem dX7_readOrder_17 : decode cX7_readOrder 17 = .ok (.invokestatic 36, 3) := by decide +kernel
theorem dX7_readOrder_20 : decode cX7_readOrder 20 = .ok (.ifCond .ne 15, 3) := by decide +kernel
theorem dX7_readOrder_23 : decode cX7_readOrder 23 = .ok (.aload_n 0, 1) := by decide +kernel
theorem dX7_readOrder_24 : decode cX7_readOrder 24 = .ok (.getfield 32, 3) := by decide +kernel
theorem dX7_readOrder_27 : decode cX7_readOrder 27 = .ok (.invokestatic 40, 3) := by decide +kernel
theorem dX7_readOrder_30 : decode cX7_readOrder 30 = .ok (.ifCond .ne 5, 3) := by decide +kernel
theorem dX7_readOrder_33 : decode cX7_readOrder 33 = .ok (.iconst 0, 1) := by decide +kernel
theorem dX7_readOrder_34 : decode cX7_readOrder 34 = .ok (.ireturn, 1) := by decide +kernel
theorem dX7_readOrder_35 : decode cX7_readOrder 35 = .ok (.aload_n 0, 1) := by decide +kernel
theorem dX7_readOrder_36 : decode cX7_readOrder 36 = .ok (.dup, 1) := by decide +kernel
theorem dX7_readOrder_37 : decode cX7_readOrder 37 = .ok (.getfield 25, 3) := by decide +kernel
theorem dX7_readOrder_40 : decode cX7_readOrder 40 = .ok (.iconst 1, 1) := by decide +kernel
theorem dX7_readOrder_41 : decode cX7_readOrder 41 = .ok (.iadd, 1) := by decide +kernel
theorem dX7_readOrder_42 : decode cX7_readOrder 42 = .ok (.putfield 25, 3) := by decide +kernel
theorem dX7_readOrder_45 : decode cX7_readOrder 45 = .ok (.aload_n 0, 1) := by decide +kernel
theorem dX7_readOrder_46 : decode cX7_readOrder 46 = .ok (.aload_n 0, 1) := by decide +kernel
theorem dX7_readOrder_47 : decode cX7_readOrder 47 = .ok (.invokevirtual 43, 3) := by decide +kernel
theorem dX7_readOrder_50 : decode cX7_readOrder 50 = .ok (.putfield 47, 3) := by decide +kernel
theorem dX7_readOrder_53 : decode cX7_readOrder 53 = .ok (.aload_n 0, 1) := by decide +kernel
theorem dX7_readOrder_54 : decode cX7_readOrder 54 = .ok (.iconst (-1), 1) := by decide +kernel
theorem dX7_readOrder_55 : decode cX7_readOrder 55 = .ok (.putfield 50, 3) := by decide +kernel
theorem dX7_readOrder_58 : decode cX7_readOrder 58 = .ok (.aload_n 0, 1) := by decide +kernel
theorem dX7_readOrder_59 : decode cX7_readOrder 59 = .ok (.getfield 47, 3) := by decide +kernel
theorem dX7_readOrder_62 : decode cX7_readOrder 62 = .ok (.iconst (-1), 1) := by decide +kernel
theorem dX7_readOrder_63 : decode cX7_readOrder 63 = .ok (.if_icmp .ne 5, 3) := by decide +kernel
theorem dX7_readOrder_66 : decode cX7_readOrder 66 = .ok (.iconst 0, 1) := by decide +kernel
theorem dX7_readOrder_67 : decode cX7_readOrder 67 = .ok (.ireturn, 1) := by decide +kernel
theorem dX7_readOrder_68 : decode cX7_readOrder 68 = .ok (.aload_n 0, 1) := by decide +kernel
theorem dX7_readOrder_69 : decode cX7_readOrder 69 = .ok (.getfield 32, 3) := by decide +kernel
theorem dX7_readOrder_72 : decode cX7_readOrder 72 = .ok (.invokestatic 40, 3) := by decide +kernel
theorem dX7_readOrder_75 : decode cX7_readOrder 75 = .ok (.ifCond .eq 42, 3) := by decide +kernel
theorem dX7_readOrder_78 : decode cX7_readOrder 78 = .ok (.aload_n 0, 1) := by decide +kernel
theorem dX7_readOrder_79 : decode cX7_readOrder 79 = .ok (.invokevirtual 28, 3) := by decide +kernel
theorem dX7_readOrder_82 : decode cX7_readOrder 82 = .ok (.bipush 44, 2) := by decide +kernel
theorem dX7_readOrder_84 : decode cX7_readOrder 84 = .ok (.if_icmp .eq 5, 3) := by decide +kernel
theorem dX7_readOrder_87 : decode cX7_readOrder 87 = .ok (.iconst 0, 1) := by decide +kernel
theorem dX7_readOrder_88 : decode cX7_readOrder 88 = .ok (.ireturn, 1) := by decide +kernel
theorem dX7_readOrder_89 : decode cX7_readOrder 89 = .ok (.aload_n 0, 1) := by decide +kernel
theorem dX7_readOrder_90 : decode cX7_readOrder 90 = .ok (.dup, 1) := by decide +kernel
theorem dX7_readOrder_91 : decode cX7_readOrder 91 = .ok (.getfield 25, 3) := by decide +kernel
theorem dX7_readOrder_94 : decode cX7_readOrder 94 = .ok (.iconst 1, 1) := by decide +kernel
theorem dX7_readOrder_95 : decode cX7_readOrder 95 = .ok (.iadd, 1) := by decide +kernel
theorem dX7_readOrder_96 : decode cX7_readOrder 96 = .ok (.putfield 25, 3) := by decide +kernel
theorem dX7_readOrder_99 : decode cX7_readOrder 99 = .ok (.aload_n 0, 1) := by decide +kernel
theorem dX7_readOrder_100 : decode cX7_readOrder 100 = .ok (.aload_n 0, 1) := by decide +kernel
theorem dX7_readOrder_101 : decode cX7_readOrder 101 = .ok (.invokevirtual 43, 3) := by decide +kernel
theorem dX7_readOrder_104 : decode cX7_readOrder 104 = .ok (.putfield 50, 3) := by decide +kernel
theorem dX7_readOrder_107 : decode cX7_readOrder 107 = .ok (.aload_n 0, 1) := by decide +kernel
theorem dX7_readOrder_108 : decode cX7_readOrder 108 = .ok (.getfield 50, 3) := by decide +kernel
theorem dX7_readOrder_111 : decode cX7_readOrder 111 = .ok (.iconst (-1), 1) := by decide +kernel
theorem dX7_readOrder_112 : decode cX7_readOrder 112 = .ok (.if_icmp .ne 5, 3) := by decide +kernel
theorem dX7_readOrder_115 : decode cX7_readOrder 115 = .ok (.iconst 0, 1) := by decide +kernel
theorem dX7_readOrder_116 : decode cX7_readOrder 116 = .ok (.ireturn, 1) := by decide +kernel
theorem dX7_readOrder_117 : decode cX7_readOrder 117 = .ok (.aload_n 0, 1) := by decide +kernel
theorem dX7_readOrder_118 : decode cX7_readOrder 118 = .ok (.invokevirtual 28, 3) := by decide +kernel
theorem dX7_readOrder_121 : decode cX7_readOrder 121 = .ok (.bipush 59, 2) := by decide +kernel
theorem dX7_readOrder_123 : decode cX7_readOrder 123 = .ok (.if_icmp .eq 5, 3) := by decide +kernel
theorem dX7_readOrder_126 : decode cX7_readOrder 126 = .ok (.iconst 0, 1) := by decide +kernel
theorem dX7_readOrder_127 : decode cX7_readOrder 127 = .ok (.ireturn, 1) := by decide +kernel
theorem dX7_readOrder_128 : decode cX7_readOrder 128 = .ok (.aload_n 0, 1) := by decide +kernel
theorem dX7_readOrder_129 : decode cX7_readOrder 129 = .ok (.dup, 1) := by decide +kernel
theorem dX7_readOrder_130 : decode cX7_readOrder 130 = .ok (.getfield 25, 3) := by decide +kernel
theorem dX7_readOrder_133 : decode cX7_readOrder 133 = .ok (.iconst 1, 1) := by decide +kernel
theorem dX7_readOrder_134 : decode cX7_readOrder 134 = .ok (.iadd, 1) := by decide +kernel
theorem dX7_readOrder_135 : decode cX7_readOrder 135 = .ok (.putfield 25, 3) := by decide +kernel
theorem dX7_readOrder_138 : decode cX7_readOrder 138 = .ok (.iconst 1, 1) := by decide +kernel
theorem dX7_readOrder_139 : decode cX7_readOrder 139 = .ok (.ireturn, 1) := by decide +kernel
theorem dX7_next_0 : decode cX7_next 0 = .ok (.aload_n 0, 1) := by decide +kernel
theorem dX7_next_1 : decode cX7_next 1 = .ok (.getfield 25, 3) := by decide +kernel
theorem dX7_next_4 : decode cX7_next 4 = .ok (.ifCond .lt 26, 3) := by decide +kernel
theorem dX7_next_7 : decode cX7_next 7 = .ok (.aload_n 0, 1) := by decide +kernel
theorem dX7_next_8 : decode cX7_next 8 = .ok (.getfield 25, 3) := by decide +kernel
theorem dX7_next_11 : decode cX7_next 11 = .ok (.aload_n 0, 1) := by decide +kernel
theorem dX7_next_12 : decode cX7_next 12 = .ok (.getfield 20, 3) := by decide +kernel
theorem dX7_next_15 : decode cX7_next 15 = .ok (.if_icmp .ge 15, 3) := by decide +kernel
theorem dX7_next_18 : decode cX7_next 18 = .ok (.aload_n 0, 1) := by decide +kernel
theorem dX7_next_19 : decode cX7_next 19 = .ok (.getfield 9, 3) := by decide +kernel
theorem dX7_next_22 : decode cX7_next 22 = .ok (.aload_n 0, 1) := by decide +kernel
theorem dX7_next_23 : decode cX7_next 23 = .ok (.getfield 25, 3) := by decide +kernel
theorem dX7_next_26 : decode cX7_next 26 = .ok (.caload, 1) := by decide +kernel
theorem dX7_next_27 : decode cX7_next 27 = .ok (.goto 5, 3) := by decide +kernel
theorem dX7_next_30 : decode cX7_next 30 = .ok (.bipush 32, 2) := by decide +kernel
theorem dX7_next_32 : decode cX7_next 32 = .ok (.ireturn, 1) := by decide +kernel
theorem dX7_readNumber_0 : decode cX7_readNumber 0 = .ok (.iconst (-1), 1) := by decide +kernel
theorem dX7_readNumber_1 : decode cX7_readNumber 1 = .ok (.istore_n 1, 1) := by decide +kernel
theorem dX7_readNumber_2 : decode cX7_readNumber 2 = .ok (.iconst 0, 1) := by decide +kernel
theorem dX7_readNumber_3 : decode cX7_readNumber 3 = .ok (.istore_n 2, 1) := by decide +kernel
theorem dX7_readNumber_4 : decode cX7_readNumber 4 = .ok (.iload_n 2, 1) := by decide +kernel
theorem dX7_readNumber_5 : decode cX7_readNumber 5 = .ok (.iconst 3, 1) := by decide +kernel
theorem dX7_readNumber_6 : decode cX7_readNumber 6 = .ok (.if_icmp .ge 50, 3) := by decide +kernel
theorem dX7_readNumber_9 : decode cX7_readNumber 9 = .ok (.aload_n 0, 1) := by decide +kernel
theorem dX7_readNumber_10 : decode cX7_readNumber 10 = .ok (.invokevirtual 28, 3) := by decide +kernel
theorem dX7_readNumber_13 : decode cX7_readNumber 13 = .ok (.bipush 48, 2) := by decide +kernel
theorem dX7_readNumber_15 : decode cX7_readNumber 15 = .ok (.bipush 57, 2) := by decide +kernel
theorem dX7_readNumber_17 : decode cX7_readNumber 17 = .ok (.invokestatic 15, 3) := by decide +kernel
theorem dX7_readNumber_20 : decode cX7_readNumber 20 = .ok (.ifCond .eq 36, 3) := by decide +kernel
theorem dX7_readNumber_23 : decode cX7_readNumber 23 = .ok (.iload_n 1, 1) := by decide +kernel
theorem dX7_readNumber_24 : decode cX7_readNumber 24 = .ok (.iconst 0, 1) := by decide +kernel
theorem dX7_readNumber_25 : decode cX7_readNumber 25 = .ok (.invokestatic 53, 3) := by decide +kernel
theorem dX7_readNumber_28 : decode cX7_readNumber 28 = .ok (.bipush 10, 2) := by decide +kernel
theorem dX7_readNumber_30 : decode cX7_readNumber 30 = .ok (.imul, 1) := by decide +kernel
theorem dX7_readNumber_31 : decode cX7_readNumber 31 = .ok (.aload_n 0, 1) := by decide +kernel
theorem dX7_readNumber_32 : decode cX7_readNumber 32 = .ok (.invokevirtual 28, 3) := by decide +kernel
theorem dX7_readNumber_35 : decode cX7_readNumber 35 = .ok (.bipush 48, 2) := by decide +kernel
theorem dX7_readNumber_37 : decode cX7_readNumber 37 = .ok (.isub, 1) := by decide +kernel
theorem dX7_readNumber_38 : decode cX7_readNumber 38 = .ok (.iadd, 1) := by decide +kernel
theorem dX7_readNumber_39 : decode cX7_readNumber 39 = .ok (.istore_n 1, 1) := by decide +kernel
theorem dX7_readNumber_40 : decode cX7_readNumber 40 = .ok (.aload_n 0, 1) := by decide +kernel
theorem dX7_readNumber_41 : decode cX7_readNumber 41 = .ok (.dup, 1) := by decide +kernel
theorem dX7_readNumber_42 : decode cX7_readNumber 42 = .ok (.getfield 25, 3) := by decide +kernel
theorem dX7_readNumber_45 : decode cX7_readNumber 45 = .ok (.iconst 1, 1) := by decide +kernel
theorem dX7_readNumber_46 : decode cX7_readNumber 46 = .ok (.iadd, 1) := by decide +kernel
theorem dX7_readNumber_47 : decode cX7_readNumber 47 = .ok (.putfield 25, 3) := by decide +kernel
theorem dX7_readNumber_50 : decode cX7_readNumber 50 = .ok (.iinc 2 1, 3) := by decide +kernel
theorem dX7_readNumber_53 : decode cX7_readNumber 53 = .ok (.goto (-49), 3) := by decide +kernel
theorem dX7_readNumber_56 : decode cX7_readNumber 56 = .ok (.iload_n 1, 1) := by decide +kernel
theorem dX7_readNumber_57 : decode cX7_readNumber 57 = .ok (.ireturn, 1) := by decide +kernel
theorem dX7_isOneNumber_0 : decode cX7_isOneNumber 0 = .ok (.iload_n 0, 1) := by decide +kernel
theorem dX7_isOneNumber_1 : decode cX7_isOneNumber 1 = .ok (.bipush 108, 2) := by decide +kernel
theorem dX7_isOneNumber_3 : decode cX7_isOneNumber 3 = .ok (.if_icmp .eq 21, 3) := by decide +kernel
theorem dX7_isOneNumber_6 : decode cX7_isOneNumber 6 = .ok (.iload_n 0, 1) := by decide +kernel
theorem dX7_isOneNumber_7 : decode cX7_isOneNumber 7 = .ok (.bipush 98, 2) := by decide +kernel
theorem dX7_isOneNumber_9 : decode cX7_isOneNumber 9 = .ok (.if_icmp .eq 15, 3) := by decide +kernel
theorem dX7_isOneNumber_12 : decode cX7_isOneNumber 12 = .ok (.iload_n 0, 1) := by decide +kernel
theorem dX7_isOneNumber_13 : decode cX7_isOneNumber 13 = .ok (.bipush 118, 2) := by decide +kernel
theorem dX7_isOneNumber_15 : decode cX7_isOneNumber 15 = .ok (.if_icmp .eq 9, 3) := by decide +kernel
theorem dX7_isOneNumber_18 : decode cX7_isOneNumber 18 = .ok (.iload_n 0, 1) := by decide +kernel
theorem dX7_isOneNumber_19 : decode cX7_isOneNumber 19 = .ok (.bipush 109, 2) := by decide +kernel
theorem dX7_isOneNumber_21 : decode cX7_isOneNumber 21 = .ok (.if_icmp .ne 7, 3) := by decide +kernel
theorem dX7_isOneNumber_24 : decode cX7_isOneNumber 24 = .ok (.iconst 1, 1) := by decide +kernel
theorem dX7_isOneNumber_25 : decode cX7_isOneNumber 25 = .ok (.goto 4, 3) := by decide +kernel
theorem dX7_isOneNumber_28 : decode cX7_isOneNumber 28 = .ok (.iconst 0, 1) := by decide +kernel
theorem dX7_isOneNumber_29 : decode cX7_isOneNumber 29 = .ok (.ireturn, 1) := by decide +kernel
theorem dX7_isTwoNumbers_0 : decode cX7_isTwoNumbers 0 = .ok (.iload_n 0, 1) := by decide +kernel
theorem dX7_isTwoNumbers_1 : decode cX7_isTwoNumbers 1 = .ok (.bipush 100, 2) := by decide +kernel
theorem dX7_isTwoNumbers_3 : decode cX7_isTwoNumbers 3 = .ok (.if_icmp .eq 9, 3) := by decide +kernel
theorem dX7_isTwoNumbers_6 : decode cX7_isTwoNumbers 6 = .ok (.iload_n 0, 1) := by decide +kernel
theorem dX7_isTwoNumbers_7 : decode cX7_isTwoNumbers 7 = .ok (.bipush 115, 2) := by decide +kernel
theorem dX7_isTwoNumbers_9 : decode cX7_isTwoNumbers 9 = .ok (.if_icmp .ne 7, 3) := by decide +kernel
theorem dX7_isTwoNumbers_12 : decode cX7_isTwoNumbers 12 = .ok (.iconst 1, 1) := by decide +kernel
theorem dX7_isTwoNumbers_13 : decode cX7_isTwoNumbers 13 = .ok (.goto 4, 3) := by decide +kernel
theorem dX7_isTwoNumbers_16 : decode cX7_isTwoNumbers 16 = .ok (.iconst 0, 1) := by decide +kernel
theorem dX7_isTwoNumbers_17 : decode cX7_isTwoNumbers 17 = .ok (.ireturn, 1) := by decide +kernel
theorem dX8_init_0 : decode cX8_init 0 = .ok (.aload_n 0, 1) := by decide +kernel
theorem dX8_init_1 : decode cX8_init 1 = .ok (.invokespecial 1, 3) := by decide +kernel
theorem dX8_init_4 : decode cX8_init 4 = .ok (.aload_n 0, 1) := by decide +kernel
theorem dX8_init_5 : decode cX8_init 5 = .ok (.new 7, 3) := by decide +kernel
theorem dX8_init_8 : decode cX8_init 8 = .ok (.dup, 1) := by decide +kernel
theorem dX8_init_9 : decode cX8_init 9 = .ok (.invokespecial 9, 3) := by decide +kernel
theorem dX8_init_12 : decode cX8_init 12 = .ok (.putfield 10, 3) := by decide +kernel
theorem dX8_init_15 : decode cX8_init 15 = .ok (.aload_n 0, 1) := by decide +kernel
theorem dX8_init_16 : decode cX8_init 16 = .ok (.new 7, 3) := by decide +kernel
theorem dX8_init_19 : decode cX8_init 19 = .ok (.dup, 1) := by decide +kernel
theorem dX8_init_20 : decode cX8_init 20 = .ok (.invokespecial 9, 3) := by decide +kernel
theorem dX8_init_23 : decode cX8_init 23 = .ok (.putfield 16, 3) := by decide +kernel
theorem dX8_init_26 : decode cX8_init 26 = .ok (.aload_n 0, 1) := by decide +kernel
theorem dX8_init_27 : decode cX8_init 27 = .ok (.new 19, 3) := by decide +kernel
theorem dX8_init_30 : decode cX8_init 30 = .ok (.dup, 1) := by decide +kernel
theorem dX8_init_31 : decode cX8_init 31 = .ok (.invokespecial 21, 3) := by decide +kernel
theorem dX8_init_34 : decode cX8_init 34 = .ok (.putfield 22, 3) := by decide +kernel
theorem dX8_init_37 : decode cX8_init 37 = .ok (.aload_n 0, 1) := by decide +kernel
theorem dX8_init_38 : decode cX8_init 38 = .ok (.new 26, 3) := by decide +kernel
theorem dX8_init_41 : decode cX8_init 41 = .ok (.dup, 1) := by decide +kernel
theorem dX8_init_42 : decode cX8_init 42 = .ok (.invokespecial 28, 3) := by decide +kernel
theorem dX8_init_45 : decode cX8_init 45 = .ok (.putfield 29, 3) := by decide +kernel
theorem dX8_init_48 : decode cX8_init 48 = .ok (.aload_n 0, 1) := by decide +kernel
theorem dX8_init_49 : decode cX8_init 49 = .ok (.new 33, 3) := by decide +kernel
theorem dX8_init_52 : decode cX8_init 52 = .ok (.dup, 1) := by decide +kernel
theorem dX8_init_53 : decode cX8_init 53 = .ok (.invokespecial 35, 3) := by decide +kernel
theorem dX8_init_56 : decode cX8_init 56 = .ok (.putfield 36, 3) := by decide +kernel
theorem dX8_init_59 : decode cX8_init 59 = .ok (.aload_n 0, 1) := by decide +kernel
theorem dX8_init_60 : decode cX8_init 60 = .ok (.new 40, 3) := by decide +kernel
theorem dX8_init_63 : decode cX8_init 63 = .ok (.dup, 1) := by decide +kernel
theorem dX8_init_64 : decode cX8_init 64 = .ok (.invokespecial 42, 3) := by decide +kernel
theorem dX8_init_67 : decode cX8_init 67 = .ok (.putfield 43, 3) := by decide +kernel
theorem dX8_init_70 : decode cX8_init 70 = .ok (.return_, 1) := by decide +kernel
theorem dX8_person_0 : decode cX8_person 0 = .ok (.aload_n 0, 1) := by decide +kernel
theorem dX8_person_1 : decode cX8_person 1 = .ok (.getfield 22, 3) := by decide +kernel
theorem dX8_person_4 : decode cX8_person 4 = .ok (.aload_n 0, 1) := by decide +kernel
theorem dX8_person_5 : decode cX8_person 5 = .ok (.getfield 10, 3) := by decide +kernel
theorem dX8_person_8 : decode cX8_person 8 = .ok (.invokevirtual 47, 3) := by decide +kernel
theorem dX8_person_11 : decode cX8_person 11 = .ok (.aload_n 0, 1) := by decide +kernel
theorem dX8_person_12 : decode cX8_person 12 = .ok (.getfield 22, 3) := by decide +kernel
theorem dX8_person_15 : decode cX8_person 15 = .ok (.aload_n 0, 1) := by decide +kernel
theorem dX8_person_16 : decode cX8_person 16 = .ok (.getfield 10, 3) := by decide +kernel
theorem dX8_person_19 : decode cX8_person 19 = .ok (.iload_n 1, 1) := by decide +kernel
theorem dX8_person_20 : decode cX8_person 20 = .ok (.iload_n 2, 1) := by decide +kernel
theorem dX8_person_21 : decode cX8_person 21 = .ok (.invokevirtual 51, 3) := by decide +kernel
theorem dX8_person_24 : decode cX8_person 24 = .ok (.invokevirtual 55, 3) := by decide +kernel
theorem dX8_person_27 : decode cX8_person 27 = .ok (.ireturn, 1) := by decide +kernel
theorem dX8_turn_0 : decode cX8_turn 0 = .ok (.aload_n 0, 1) := by decide +kernel
theorem dX8_turn_1 : decode cX8_turn 1 = .ok (.getfield 22, 3) := by decide +kernel
theorem dX8_turn_4 : decode cX8_turn 4 = .ok (.aload_n 0, 1) := by decide +kernel
theorem dX8_turn_5 : decode cX8_turn 5 = .ok (.getfield 10, 3) := by decide +kernel
theorem dX8_turn_8 : decode cX8_turn 8 = .ok (.invokevirtual 47, 3) := by decide +kernel
theorem dX8_turn_11 : decode cX8_turn 11 = .ok (.aload_n 0, 1) := by decide +kernel
theorem dX8_turn_12 : decode cX8_turn 12 = .ok (.getfield 22, 3) := by decide +kernel
theorem dX8_turn_15 : decode cX8_turn 15 = .ok (.aload_n 0, 1) := by decide +kernel
theorem dX8_turn_16 : decode cX8_turn 16 = .ok (.getfield 10, 3) := by decide +kernel
theorem dX8_turn_19 : decode cX8_turn 19 = .ok (.iload_n 1, 1) := by decide +kernel
theorem dX8_turn_20 : decode cX8_turn 20 = .ok (.iload_n 2, 1) := by decide +kernel
theorem dX8_turn_21 : decode cX8_turn 21 = .ok (.iload_n 3, 1) := by decide +kernel
theorem dX8_turn_22 : decode cX8_turn 22 = .ok (.invokevirtual 59, 3) := by decide +kernel
theorem dX8_turn_25 : decode cX8_turn 25 = .ok (.invokevirtual 55, 3) := by decide +kernel
theorem dX8_turn_28 : decode cX8_turn 28 = .ok (.ireturn, 1) := by decide +kernel
theorem dX8_paper_0 : decode cX8_paper 0 = .ok (.aload_n 0, 1) := by decide +kernel
theorem dX8_paper_1 : decode cX8_paper 1 = .ok (.getfield 22, 3) := by decide +kernel
theorem dX8_paper_4 : decode cX8_paper 4 = .ok (.aload_n 0, 1) := by decide +kernel
theorem dX8_paper_5 : decode cX8_paper 5 = .ok (.getfield 10, 3) := by decide +kernel
theorem dX8_paper_8 : decode cX8_paper 8 = .ok (.invokevirtual 47, 3) := by decide +kernel
theorem dX8_paper_11 : decode cX8_paper 11 = .ok (.aload_n 0, 1) := by decide +kernel
theorem dX8_paper_12 : decode cX8_paper 12 = .ok (.getfield 22, 3) := by decide +kernel
theorem dX8_paper_15 : decode cX8_paper 15 = .ok (.aload_n 0, 1) := by decide +kernel
theorem dX8_paper_16 : decode cX8_paper 16 = .ok (.getfield 10, 3) := by decide +kernel
theorem dX8_paper_19 : decode cX8_paper 19 = .ok (.iload_n 1, 1) := by decide +kernel
theorem dX8_paper_20 : decode cX8_paper 20 = .ok (.iload_n 2, 1) := by decide +kernel
theorem dX8_paper_21 : decode cX8_paper 21 = .ok (.invokevirtual 63, 3) := by decide +kernel
theorem dX8_paper_24 : decode cX8_paper 24 = .ok (.invokevirtual 55, 3) := by decide +kernel
theorem dX8_paper_27 : decode cX8_paper 27 = .ok (.ireturn, 1) := by decide +kernel
theorem dX8_look_0 : decode cX8_look 0 = .ok (.aload_n 0, 1) := by decide +kernel
theorem dX8_look_1 : decode cX8_look 1 = .ok (.getfield 22, 3) := by decide +kernel
theorem dX8_look_4 : decode cX8_look 4 = .ok (.aload_n 0, 1) := by decide +kernel
theorem dX8_look_5 : decode cX8_look 5 = .ok (.getfield 10, 3) := by decide +kernel
theorem dX8_look_8 : decode cX8_look 8 = .ok (.invokevirtual 47, 3) := by decide +kernel
theorem dX8_look_11 : decode cX8_look 11 = .ok (.aload_n 0, 1) := by decide +kernel
theorem dX8_look_12 : decode cX8_look 12 = .ok (.getfield 22, 3) := by decide +kernel
theorem dX8_look_15 : decode cX8_look 15 = .ok (.aload_n 0, 1) := by decide +kernel
theorem dX8_look_16 : decode cX8_look 16 = .ok (.getfield 10, 3) := by decide +kernel
theorem dX8_look_19 : decode cX8_look 19 = .ok (.iload_n 1, 1) := by decide +kernel
theorem dX8_look_20 : decode cX8_look 20 = .ok (.invokevirtual 66, 3) := by decide +kernel
theorem dX8_look_23 : decode cX8_look 23 = .ok (.invokevirtual 55, 3) := by decide +kernel
theorem dX8_look_26 : decode cX8_look 26 = .ok (.ireturn, 1) := by decide +kernel
theorem dX8_sheet_0 : decode cX8_sheet 0 = .ok (.aload_n 0, 1) := by decide +kernel
theorem dX8_sheet_1 : decode cX8_sheet 1 = .ok (.getfield 22, 3) := by decide +kernel
theorem dX8_sheet_4 : decode cX8_sheet 4 = .ok (.aload_n 0, 1) := by decide +kernel
theorem dX8_sheet_5 : decode cX8_sheet 5 = .ok (.getfield 10, 3) := by decide +kernel
theorem dX8_sheet_8 : decode cX8_sheet 8 = .ok (.invokevirtual 47, 3) := by decide +kernel
theorem dX8_sheet_11 : decode cX8_sheet 11 = .ok (.aload_n 0, 1) := by decide +kernel
theorem dX8_sheet_12 : decode cX8_sheet 12 = .ok (.getfield 22, 3) := by decide +kernel
theorem dX8_sheet_15 : decode cX8_sheet 15 = .ok (.aload_n 0, 1) := by decide +kernel
theorem dX8_sheet_16 : decode cX8_sheet 16 = .ok (.getfield 10, 3) := by decide +kernel
theorem dX8_sheet_19 : decode cX8_sheet 19 = .ok (.iload_n 1, 1) := by decide +kernel
theorem dX8_sheet_20 : decode cX8_sheet 20 = .ok (.invokevirtual 69, 3) := by decide +kernel
theorem dX8_sheet_23 : decode cX8_sheet 23 = .ok (.invokevirtual 55, 3) := by decide +kernel
theorem dX8_sheet_26 : decode cX8_sheet 26 = .ok (.ireturn, 1) := by decide +kernel
theorem dX8_draw_0 : decode cX8_draw 0 = .ok (.aload_n 0, 1) := by decide +kernel
theorem dX8_draw_1 : decode cX8_draw 1 = .ok (.getfield 22, 3) := by decide +kernel
theorem dX8_draw_4 : decode cX8_draw 4 = .ok (.aload_n 0, 1) := by decide +kernel
theorem dX8_draw_5 : decode cX8_draw 5 = .ok (.getfield 10, 3) := by decide +kernel
theorem dX8_draw_8 : decode cX8_draw 8 = .ok (.invokevirtual 47, 3) := by decide +kernel
theorem dX8_draw_11 : decode cX8_draw 11 = .ok (.aload_n 0, 1) := by decide +kernel
theorem dX8_draw_12 : decode cX8_draw 12 = .ok (.getfield 22, 3) := by decide +kernel
theorem dX8_draw_15 : decode cX8_draw 15 = .ok (.aload_n 0, 1) := by decide +kernel
theorem dX8_draw_16 : decode cX8_draw 16 = .ok (.getfield 10, 3) := by decide +kernel
theorem dX8_draw_19 : decode cX8_draw 19 = .ok (.iload_n 1, 1) := by decide +kernel
theorem dX8_draw_20 : decode cX8_draw 20 = .ok (.iload_n 2, 1) := by decide +kernel
theorem dX8_draw_21 : decode cX8_draw 21 = .ok (.invokevirtual 72, 3) := by decide +kernel
theorem dX8_draw_24 : decode cX8_draw 24 = .ok (.invokevirtual 55, 3) := by decide +kernel
theorem dX8_draw_27 : decode cX8_draw 27 = .ok (.ireturn, 1) := by decide +kernel
theorem dX8_tear_0 : decode cX8_tear 0 = .ok (.aload_n 0, 1) := by decide +kernel
theorem dX8_tear_1 : decode cX8_tear 1 = .ok (.getfield 22, 3) := by decide +kernel
theorem dX8_tear_4 : decode cX8_tear 4 = .ok (.aload_n 0, 1) := by decide +kernel
theorem dX8_tear_5 : decode cX8_tear 5 = .ok (.getfield 10, 3) := by decide +kernel
theorem dX8_tear_8 : decode cX8_tear 8 = .ok (.invokevirtual 47, 3) := by decide +kernel
theorem dX8_tear_11 : decode cX8_tear 11 = .ok (.aload_n 0, 1) := by decide +kernel
theorem dX8_tear_12 : decode cX8_tear 12 = .ok (.getfield 22, 3) := by decide +kernel
theorem dX8_tear_15 : decode cX8_tear 15 = .ok (.aload_n 0, 1) := by decide +kernel
theorem dX8_tear_16 : decode cX8_tear 16 = .ok (.getfield 10, 3) := by decide +kernel
theorem dX8_tear_19 : decode cX8_tear 19 = .ok (.iload_n 1, 1) := by decide +kernel
theorem dX8_tear_20 : decode cX8_tear 20 = .ok (.invokevirtual 75, 3) := by decide +kernel
theorem dX8_tear_23 : decode cX8_tear 23 = .ok (.invokevirtual 55, 3) := by decide +kernel
theorem dX8_tear_26 : decode cX8_tear 26 = .ok (.ireturn, 1) := by decide +kernel
theorem dX8_verdict_0 : decode cX8_verdict 0 = .ok (.aload_n 0, 1) := by decide +kernel
theorem dX8_verdict_1 : decode cX8_verdict 1 = .ok (.getfield 22, 3) := by decide +kernel
theorem dX8_verdict_4 : decode cX8_verdict 4 = .ok (.aload_n 0, 1) := by decide +kernel
theorem dX8_verdict_5 : decode cX8_verdict 5 = .ok (.getfield 10, 3) := by decide +kernel
theorem dX8_verdict_8 : decode cX8_verdict 8 = .ok (.invokevirtual 47, 3) := by decide +kernel
theorem dX8_verdict_11 : decode cX8_verdict 11 = .ok (.aload_n 0, 1) := by decide +kernel
theorem dX8_verdict_12 : decode cX8_verdict 12 = .ok (.getfield 22, 3) := by decide +kernel
theorem dX8_verdict_15 : decode cX8_verdict 15 = .ok (.aload_n 0, 1) := by decide +kernel
theorem dX8_verdict_16 : decode cX8_verdict 16 = .ok (.getfield 10, 3) := by decide +kernel
theorem dX8_verdict_19 : decode cX8_verdict 19 = .ok (.iload_n 1, 1) := by decide +kernel
theorem dX8_verdict_20 : decode cX8_verdict 20 = .ok (.invokevirtual 78, 3) := by decide +kernel
theorem dX8_verdict_23 : decode cX8_verdict 23 = .ok (.invokevirtual 55, 3) := by decide +kernel
theorem dX8_verdict_26 : decode cX8_verdict 26 = .ok (.ireturn, 1) := by decide +kernel
theorem dX8_sell_0 : decode cX8_sell 0 = .ok (.aload_n 0, 1) := by decide +kernel
theorem dX8_sell_1 : decode cX8_sell 1 = .ok (.getfield 22, 3) := by decide +kernel
theorem dX8_sell_4 : decode cX8_sell 4 = .ok (.aload_n 0, 1) := by decide +kernel
theorem dX8_sell_5 : decode cX8_sell 5 = .ok (.getfield 10, 3) := by decide +kernel
theorem dX8_sell_8 : decode cX8_sell 8 = .ok (.invokevirtual 47, 3) := by decide +kernel
theorem dX8_sell_11 : decode cX8_sell 11 = .ok (.aload_n 0, 1) := by decide +kernel
theorem dX8_sell_12 : decode cX8_sell 12 = .ok (.getfield 22, 3) := by decide +kernel
theorem dX8_sell_15 : decode cX8_sell 15 = .ok (.aload_n 0, 1) := by decide +kernel
theorem dX8_sell_16 : decode cX8_sell 16 = .ok (.getfield 10, 3) := by decide +kernel
theorem dX8_sell_19 : decode cX8_sell 19 = .ok (.iload_n 1, 1) := by decide +kernel
theorem dX8_sell_20 : decode cX8_sell 20 = .ok (.iload_n 2, 1) := by decide +kernel
theorem dX8_sell_21 : decode cX8_sell 21 = .ok (.invokevirtual 81, 3) := by decide +kernel
theorem dX8_sell_24 : decode cX8_sell 24 = .ok (.invokevirtual 55, 3) := by decide +kernel
theorem dX8_sell_27 : decode cX8_sell 27 = .ok (.ireturn, 1) := by decide +kernel
theorem dX8_pass_0 : decode cX8_pass 0 = .ok (.aload_n 0, 1) := by decide +kernel
theorem dX8_pass_1 : decode cX8_pass 1 = .ok (.getfield 22, 3) := by decide +kernel
theorem dX8_pass_4 : decode cX8_pass 4 = .ok (.aload_n 0, 1) := by decide +kernel
theorem dX8_pass_5 : decode cX8_pass 5 = .ok (.getfield 10, 3) := by decide +kernel
theorem dX8_pass_8 : decode cX8_pass 8 = .ok (.invokevirtual 47, 3) := by decide +kernel
theorem dX8_pass_11 : decode cX8_pass 11 = .ok (.aload_n 0, 1) := by decide +kernel
theorem dX8_pass_12 : decode cX8_pass 12 = .ok (.getfield 22, 3) := by decide +kernel
theorem dX8_pass_15 : decode cX8_pass 15 = .ok (.aload_n 0, 1) := by decide +kernel
theorem dX8_pass_16 : decode cX8_pass 16 = .ok (.getfield 10, 3) := by decide +kernel
theorem dX8_pass_19 : decode cX8_pass 19 = .ok (.iload_n 1, 1) := by decide +kernel
theorem dX8_pass_20 : decode cX8_pass 20 = .ok (.invokevirtual 84, 3) := by decide +kernel
theorem dX8_pass_23 : decode cX8_pass 23 = .ok (.invokevirtual 55, 3) := by decide +kernel
theorem dX8_pass_26 : decode cX8_pass 26 = .ok (.ireturn, 1) := by decide +kernel
theorem dX8_set_0 : decode cX8_set 0 = .ok (.aload_n 0, 1) := by decide +kernel
theorem dX8_set_1 : decode cX8_set 1 = .ok (.getfield 22, 3) := by decide +kernel
theorem dX8_set_4 : decode cX8_set 4 = .ok (.aload_n 0, 1) := by decide +kernel
theorem dX8_set_5 : decode cX8_set 5 = .ok (.getfield 10, 3) := by decide +kernel
theorem dX8_set_8 : decode cX8_set 8 = .ok (.invokevirtual 47, 3) := by decide +kernel
theorem dX8_set_11 : decode cX8_set 11 = .ok (.aload_n 0, 1) := by decide +kernel
theorem dX8_set_12 : decode cX8_set 12 = .ok (.getfield 22, 3) := by decide +kernel
theorem dX8_set_15 : decode cX8_set 15 = .ok (.aload_n 0, 1) := by decide +kernel
theorem dX8_set_16 : decode cX8_set 16 = .ok (.getfield 10, 3) := by decide +kernel
theorem dX8_set_19 : decode cX8_set 19 = .ok (.iload_n 1, 1) := by decide +kernel
theorem dX8_set_20 : decode cX8_set 20 = .ok (.iload_n 2, 1) := by decide +kernel
theorem dX8_set_21 : decode cX8_set 21 = .ok (.invokevirtual 87, 3) := by decide +kernel
theorem dX8_set_24 : decode cX8_set 24 = .ok (.invokevirtual 55, 3) := by decide +kernel
theorem dX8_set_27 : decode cX8_set 27 = .ok (.ireturn, 1) := by decide +kernel
theorem dX8_personOf_0 : decode cX8_personOf 0 = .ok (.aload_n 0, 1) := by decide +kernel
theorem dX8_personOf_1 : decode cX8_personOf 1 = .ok (.getfield 10, 3) := by decide +kernel
theorem dX8_personOf_4 : decode cX8_personOf 4 = .ok (.iload_n 1, 1) := by decide +kernel
theorem dX8_personOf_5 : decode cX8_personOf 5 = .ok (.iload_n 2, 1) := by decide +kernel
theorem dX8_personOf_6 : decode cX8_personOf 6 = .ok (.invokevirtual 90, 3) := by decide +kernel
theorem dX8_personOf_9 : decode cX8_personOf 9 = .ok (.ireturn, 1) := by decide +kernel
theorem dX8_sheetOf_0 : decode cX8_sheetOf 0 = .ok (.aload_n 0, 1) := by decide +kernel
theorem dX8_sheetOf_1 : decode cX8_sheetOf 1 = .ok (.getfield 10, 3) := by decide +kernel
theorem dX8_sheetOf_4 : decode cX8_sheetOf 4 = .ok (.iload_n 1, 1) := by decide +kernel
theorem dX8_sheetOf_5 : decode cX8_sheetOf 5 = .ok (.iload_n 2, 1) := by decide +kernel
theorem dX8_sheetOf_6 : decode cX8_sheetOf 6 = .ok (.invokevirtual 93, 3) := by decide +kernel
theorem dX8_sheetOf_9 : decode cX8_sheetOf 9 = .ok (.ireturn, 1) := by decide +kernel
theorem dX8_paperOf_0 : decode cX8_paperOf 0 = .ok (.aload_n 0, 1) := by decide +kernel
theorem dX8_paperOf_1 : decode cX8_paperOf 1 = .ok (.getfield 10, 3) := by decide +kernel
theorem dX8_paperOf_4 : decode cX8_paperOf 4 = .ok (.iload_n 1, 1) := by decide +kernel
theorem dX8_paperOf_5 : decode cX8_paperOf 5 = .ok (.iload_n 2, 1) := by decide +kernel
theorem dX8_paperOf_6 : decode cX8_paperOf 6 = .ok (.invokevirtual 96, 3) := by decide +kernel
theorem dX8_paperOf_9 : decode cX8_paperOf 9 = .ok (.ireturn, 1) := by decide +kernel
theorem dX8_price_0 : decode cX8_price 0 = .ok (.aload_n 0, 1) := by decide +kernel
theorem dX8_price_1 : decode cX8_price 1 = .ok (.getfield 10, 3) := by decide +kernel
theorem dX8_price_4 : decode cX8_price 4 = .ok (.getfield 99, 3) := by decide +kernel
theorem dX8_price_7 : decode cX8_price 7 = .ok (.iload_n 1, 1) := by decide +kernel
theorem dX8_price_8 : decode cX8_price 8 = .ok (.invokevirtual 103, 3) := by decide +kernel
theorem dX8_price_11 : decode cX8_price 11 = .ok (.istore_n 3, 1) := by decide +kernel
theorem dX8_price_12 : decode cX8_price 12 = .ok (.iload_n 3, 1) := by decide +kernel
theorem dX8_price_13 : decode cX8_price 13 = .ok (.iconst (-1), 1) := by decide +kernel
theorem dX8_price_14 : decode cX8_price 14 = .ok (.if_icmp .eq 17, 3) := by decide +kernel
theorem dX8_price_17 : decode cX8_price 17 = .ok (.aload_n 0, 1) := by decide +kernel
theorem dX8_price_18 : decode cX8_price 18 = .ok (.getfield 10, 3) := by decide +kernel
theorem dX8_price_21 : decode cX8_price 21 = .ok (.getfield 108, 3) := by decide +kernel
theorem dX8_price_24 : decode cX8_price 24 = .ok (.iload_n 2, 1) := by decide +kernel
theorem dX8_price_25 : decode cX8_price 25 = .ok (.invokevirtual 112, 3) := by decide +kernel
theorem dX8_price_28 : decode cX8_price 28 = .ok (.ifCond .ne 6, 3) := by decide +kernel
theorem dX8_price_31 : decode cX8_price 31 = .ok (.ldc 118, 2) := by decide +kernel
theorem dX8_price_33 : decode cX8_price 33 = .ok (.ireturn, 1) := by decide +kernel
theorem dX8_price_34 : decode cX8_price 34 = .ok (.aload_n 0, 1) := by decide +kernel
theorem dX8_price_35 : decode cX8_price 35 = .ok (.getfield 10, 3) := by decide +kernel
theorem dX8_price_38 : decode cX8_price 38 = .ok (.iload_n 3, 1) := by decide +kernel
theorem dX8_price_39 : decode cX8_price 39 = .ok (.iload_n 2, 1) := by decide +kernel
theorem dX8_price_40 : decode cX8_price 40 = .ok (.invokevirtual 119, 3) := by decide +kernel
theorem dX8_price_43 : decode cX8_price 43 = .ok (.ireturn, 1) := by decide +kernel
theorem dX8_number_0 : decode cX8_number 0 = .ok (.iload_n 1, 1) := by decide +kernel
theorem dX8_number_1 : decode cX8_number 1 = .ok (.ifCond .ge 6, 3) := by decide +kernel
theorem dX8_number_4 : decode cX8_number 4 = .ok (.ldc 118, 2) := by decide +kernel
theorem dX8_number_6 : decode cX8_number 6 = .ok (.ireturn, 1) := by decide +kernel
theorem dX8_number_7 : decode cX8_number 7 = .ok (.iload_n 1, 1) := by decide +kernel
theorem dX8_number_8 : decode cX8_number 8 = .ok (.aload_n 0, 1) := by decide +kernel
theorem dX8_number_9 : decode cX8_number 9 = .ok (.getfield 10, 3) := by decide +kernel
theorem dX8_number_12 : decode cX8_number 12 = .ok (.getfield 99, 3) := by decide +kernel
theorem dX8_number_15 : decode cX8_number 15 = .ok (.getfield 122, 3) := by decide +kernel
theorem dX8_number_18 : decode cX8_number 18 = .ok (.if_icmp .ge 18, 3) := by decide +kernel
theorem dX8_number_21 : decode cX8_number 21 = .ok (.aload_n 0, 1) := by decide +kernel
theorem dX8_number_22 : decode cX8_number 22 = .ok (.getfield 10, 3) := by decide +kernel
theorem dX8_number_25 : decode cX8_number 25 = .ok (.getfield 99, 3) := by decide +kernel
theorem dX8_number_28 : decode cX8_number 28 = .ok (.getfield 126, 3) := by decide +kernel
theorem dX8_number_31 : decode cX8_number 31 = .ok (.iload_n 1, 1) := by decide +kernel
theorem dX8_number_32 : decode cX8_number 32 = .ok (.iaload, 1) := by decide +kernel
theorem dX8_number_33 : decode cX8_number 33 = .ok (.goto 5, 3) := by decide +kernel
theorem dX8_number_36 : decode cX8_number 36 = .ok (.ldc 130, 2) := by decide +kernel
theorem dX8_number_38 : decode cX8_number 38 = .ok (.ireturn, 1) := by decide +kernel
theorem dX8_seenIn_0 : decode cX8_seenIn 0 = .ok (.aload_n 0, 1) := by decide +kernel
theorem dX8_seenIn_1 : decode cX8_seenIn 1 = .ok (.getfield 10, 3) := by decide +kernel
theorem dX8_seenIn_4 : decode cX8_seenIn 4 = .ok (.getfield 131, 3) := by decide +kernel
theorem dX8_seenIn_7 : decode cX8_seenIn 7 = .ok (.iload_n 1, 1) := by decide +kernel
theorem dX8_seenIn_8 : decode cX8_seenIn 8 = .ok (.invokevirtual 135, 3) := by decide +kernel
theorem dX8_seenIn_11 : decode cX8_seenIn 11 = .ok (.ifCond .eq 13, 3) := by decide +kernel
theorem dX8_seenIn_14 : decode cX8_seenIn 14 = .ok (.iload_n 2, 1) := by decide +kernel
theorem dX8_seenIn_15 : decode cX8_seenIn 15 = .ok (.iconst 0, 1) := by decide +kernel
theorem dX8_seenIn_16 : decode cX8_seenIn 16 = .ok (.bipush 11, 2) := by decide +kernel
theorem dX8_seenIn_18 : decode cX8_seenIn 18 = .ok (.invokestatic 138, 3) := by decide +kernel
theorem dX8_seenIn_21 : decode cX8_seenIn 21 = .ok (.ifCond .ne 6, 3) := by decide +kernel
theorem dX8_seenIn_24 : decode cX8_seenIn 24 = .ok (.ldc 118, 2) := by decide +kernel
theorem dX8_seenIn_26 : decode cX8_seenIn 26 = .ok (.ireturn, 1) := by decide +kernel
theorem dX8_seenIn_27 : decode cX8_seenIn 27 = .ok (.iconst 0, 1) := by decide +kernel
theorem dX8_seenIn_28 : decode cX8_seenIn 28 = .ok (.istore_n 3, 1) := by decide +kernel
theorem dX8_seenIn_29 : decode cX8_seenIn 29 = .ok (.iload_n 3, 1) := by decide +kernel
theorem dX8_seenIn_30 : decode cX8_seenIn 30 = .ok (.bipush 12, 2) := by decide +kernel
theorem dX8_seenIn_32 : decode cX8_seenIn 32 = .ok (.if_icmp .ge 30, 3) := by decide +kernel
theorem dX8_seenIn_35 : decode cX8_seenIn 35 = .ok (.aload_n 0, 1) := by decide +kernel
theorem dX8_seenIn_36 : decode cX8_seenIn 36 = .ok (.getfield 10, 3) := by decide +kernel
theorem dX8_seenIn_39 : decode cX8_seenIn 39 = .ok (.getfield 131, 3) := by decide +kernel
theorem dX8_seenIn_42 : decode cX8_seenIn 42 = .ok (.iload_n 1, 1) := by decide +kernel
theorem dX8_seenIn_43 : decode cX8_seenIn 43 = .ok (.iload_n 3, 1) := by decide +kernel
theorem dX8_seenIn_44 : decode cX8_seenIn 44 = .ok (.invokevirtual 142, 3) := by decide +kernel
theorem dX8_seenIn_47 : decode cX8_seenIn 47 = .ok (.iload_n 2, 1) := by decide +kernel
theorem dX8_seenIn_48 : decode cX8_seenIn 48 = .ok (.invokestatic 145, 3) := by decide +kernel
theorem dX8_seenIn_51 : decode cX8_seenIn 51 = .ok (.ifCond .eq 5, 3) := by decide +kernel
theorem dX8_seenIn_54 : decode cX8_seenIn 54 = .ok (.iload_n 3, 1) := by decide +kernel
theorem dX8_seenIn_55 : decode cX8_seenIn 55 = .ok (.ireturn, 1) := by decide +kernel
theorem dX8_seenIn_56 : decode cX8_seenIn 56 = .ok (.iinc 3 1, 3) := by decide +kernel
theorem dX8_seenIn_59 : decode cX8_seenIn 59 = .ok (.goto (-30), 3) := by decide +kernel
theorem dX8_seenIn_62 : decode cX8_seenIn 62 = .ok (.ldc 130, 2) := by decide +kernel
theorem dX8_seenIn_64 : decode cX8_seenIn 64 = .ok (.ireturn, 1) := by decide +kernel
theorem dX8_would_0 : decode cX8_would 0 = .ok (.aload_n 0, 1) := by decide +kernel
theorem dX8_would_1 : decode cX8_would 1 = .ok (.getfield 10, 3) := by decide +kernel
theorem dX8_would_4 : decode cX8_would 4 = .ok (.getfield 131, 3) := by decide +kernel
theorem dX8_would_7 : decode cX8_would 7 = .ok (.iload_n 1, 1) := by decide +kernel
theorem dX8_would_8 : decode cX8_would 8 = .ok (.invokevirtual 135, 3) := by decide +kernel
theorem dX8_would_11 : decode cX8_would 11 = .ok (.ifCond .eq 14, 3) := by decide +kernel
theorem dX8_would_14 : decode cX8_would 14 = .ok (.iload_n 2, 1) := by decide +kernel
theorem dX8_would_15 : decode cX8_would 15 = .ok (.iconst 0, 1) := by decide +kernel
theorem dX8_would_16 : decode cX8_would 16 = .ok (.sipush 300, 3) := by decide +kernel
theorem dX8_would_19 : decode cX8_would 19 = .ok (.invokestatic 138, 3) := by decide +kernel
theorem dX8_would_22 : decode cX8_would 22 = .ok (.ifCond .ne 6, 3) := by decide +kernel
theorem dX8_would_25 : decode cX8_would 25 = .ok (.ldc 118, 2) := by decide +kernel
theorem dX8_would_27 : decode cX8_would 27 = .ok (.ireturn, 1) := by decide +kernel
theorem dX8_would_28 : decode cX8_would 28 = .ok (.aload_n 0, 1) := by decide +kernel
theorem dX8_would_29 : decode cX8_would 29 = .ok (.getfield 16, 3) := by decide +kernel
theorem dX8_would_32 : decode cX8_would 32 = .ok (.aload_n 0, 1) := by decide +kernel
theorem dX8_would_33 : decode cX8_would 33 = .ok (.getfield 10, 3) := by decide +kernel
theorem dX8_would_36 : decode cX8_would 36 = .ok (.invokevirtual 149, 3) := by decide +kernel
theorem dX8_would_39 : decode cX8_would 39 = .ok (.aload_n 0, 1) := by decide +kernel
theorem dX8_would_40 : decode cX8_would 40 = .ok (.getfield 16, 3) := by decide +kernel
theorem dX8_would_43 : decode cX8_would 43 = .ok (.iload_n 1, 1) := by decide +kernel
theorem dX8_would_44 : decode cX8_would 44 = .ok (.putfield 152, 3) := by decide +kernel
theorem dX8_would_47 : decode cX8_would 47 = .ok (.aload_n 0, 1) := by decide +kernel
theorem dX8_would_48 : decode cX8_would 48 = .ok (.getfield 16, 3) := by decide +kernel
theorem dX8_would_51 : decode cX8_would 51 = .ok (.iload_n 2, 1) := by decide +kernel
theorem dX8_would_52 : decode cX8_would 52 = .ok (.invokevirtual 155, 3) := by decide +kernel
theorem dX8_would_55 : decode cX8_would 55 = .ok (.aload_n 0, 1) := by decide +kernel
theorem dX8_would_56 : decode cX8_would 56 = .ok (.getfield 16, 3) := by decide +kernel
theorem dX8_would_59 : decode cX8_would 59 = .ok (.iload_n 1, 1) := by decide +kernel
theorem dX8_would_60 : decode cX8_would 60 = .ok (.invokevirtual 159, 3) := by decide +kernel
theorem dX8_would_63 : decode cX8_would 63 = .ok (.invokestatic 162, 3) := by decide +kernel
theorem dX8_would_66 : decode cX8_would 66 = .ok (.ireturn, 1) := by decide +kernel
theorem dX8_best_0 : decode cX8_best 0 = .ok (.iload_n 1, 1) := by decide +kernel
theorem dX8_best_1 : decode cX8_best 1 = .ok (.iconst 0, 1) := by decide +kernel
theorem dX8_best_2 : decode cX8_best 2 = .ok (.iconst 2, 1) := by decide +kernel
theorem dX8_best_3 : decode cX8_best 3 = .ok (.invokestatic 138, 3) := by decide +kernel
theorem dX8_best_6 : decode cX8_best 6 = .ok (.ifCond .ne 6, 3) := by decide +kernel
theorem dX8_best_9 : decode cX8_best 9 = .ok (.ldc 118, 2) := by decide +kernel
theorem dX8_best_11 : decode cX8_best 11 = .ok (.ireturn, 1) := by decide +kernel
theorem dX8_best_12 : decode cX8_best 12 = .ok (.aload_n 0, 1) := by decide +kernel
theorem dX8_best_13 : decode cX8_best 13 = .ok (.getfield 10, 3) := by decide +kernel
theorem dX8_best_16 : decode cX8_best 16 = .ok (.aload_n 0, 1) := by decide +kernel
theorem dX8_best_17 : decode cX8_best 17 = .ok (.getfield 43, 3) := by decide +kernel
theorem dX8_best_20 : decode cX8_best 20 = .ok (.invokevirtual 167, 3) := by decide +kernel
theorem dX8_best_23 : decode cX8_best 23 = .ok (.ifCond .ne 6, 3) := by decide +kernel
theorem dX8_best_26 : decode cX8_best 26 = .ok (.ldc 130, 2) := by decide +kernel
theorem dX8_best_28 : decode cX8_best 28 = .ok (.ireturn, 1) := by decide +kernel
theorem dX8_best_29 : decode cX8_best 29 = .ok (.iload_n 1, 1) := by decide +kernel
theorem dX8_best_30 : decode cX8_best 30 = .ok (.lookupswitch 42 #[(0, 26), (1, 34)], 26) := by decide +kernel
theorem dX8_best_56 : decode cX8_best 56 = .ok (.aload_n 0, 1) := by decide +kernel
theorem dX8_best_57 : decode cX8_best 57 = .ok (.getfield 43, 3) := by decide +kernel
theorem dX8_best_60 : decode cX8_best 60 = .ok (.getfield 171, 3) := by decide +kernel
theorem dX8_best_63 : decode cX8_best 63 = .ok (.ireturn, 1) := by decide +kernel
theorem dX8_best_64 : decode cX8_best 64 = .ok (.aload_n 0, 1) := by decide +kernel
theorem dX8_best_65 : decode cX8_best 65 = .ok (.getfield 43, 3) := by decide +kernel
theorem dX8_best_68 : decode cX8_best 68 = .ok (.getfield 174, 3) := by decide +kernel
theorem dX8_best_71 : decode cX8_best 71 = .ok (.ireturn, 1) := by decide +kernel
theorem dX8_best_72 : decode cX8_best 72 = .ok (.aload_n 0, 1) := by decide +kernel
theorem dX8_best_73 : decode cX8_best 73 = .ok (.getfield 43, 3) := by decide +kernel
theorem dX8_best_76 : decode cX8_best 76 = .ok (.getfield 177, 3) := by decide +kernel
theorem dX8_best_79 : decode cX8_best 79 = .ok (.ireturn, 1) := by decide +kernel
theorem dX8_sellAll_0 : decode cX8_sellAll 0 = .ok (.aload_n 0, 1) := by decide +kernel
theorem dX8_sellAll_1 : decode cX8_sellAll 1 = .ok (.getfield 16, 3) := by decide +kernel
theorem dX8_sellAll_4 : decode cX8_sellAll 4 = .ok (.aload_n 0, 1) := by decide +kernel
theorem dX8_sellAll_5 : decode cX8_sellAll 5 = .ok (.getfield 10, 3) := by decide +kernel
theorem dX8_sellAll_8 : decode cX8_sellAll 8 = .ok (.invokevirtual 149, 3) := by decide +kernel
theorem dX8_sellAll_11 : decode cX8_sellAll 11 = .ok (.iconst 0, 1) := by decide +kernel
theorem dX8_sellAll_12 : decode cX8_sellAll 12 = .ok (.istore_n 1, 1) := by decide +kernel
theorem dX8_sellAll_13 : decode cX8_sellAll 13 = .ok (.iconst 0, 1) := by decide +kernel
theorem dX8_sellAll_14 : decode cX8_sellAll 14 = .ok (.istore_n 2, 1) := by decide +kernel
theorem dX8_sellAll_15 : decode cX8_sellAll 15 = .ok (.iload_n 2, 1) := by decide +kernel
theorem dX8_sellAll_16 : decode cX8_sellAll 16 = .ok (.bipush 10, 2) := by decide +kernel
theorem dX8_sellAll_18 : decode cX8_sellAll 18 = .ok (.if_icmp .ge 47, 3) := by decide +kernel
theorem dX8_sellAll_21 : decode cX8_sellAll 21 = .ok (.aload_n 0, 1) := by decide +kernel
theorem dX8_sellAll_22 : decode cX8_sellAll 22 = .ok (.getfield 16, 3) := by decide +kernel
theorem dX8_sellAll_25 : decode cX8_sellAll 25 = .ok (.aload_n 0, 1) := by decide +kernel
theorem dX8_sellAll_26 : decode cX8_sellAll 26 = .ok (.getfield 43, 3) := by decide +kernel
theorem dX8_sellAll_29 : decode cX8_sellAll 29 = .ok (.invokevirtual 167, 3) := by decide +kernel
theorem dX8_sellAll_32 : decode cX8_sellAll 32 = .ok (.ifCond .eq 33, 3) := by decide +kernel
theorem dX8_sellAll_35 : decode cX8_sellAll 35 = .ok (.iload_n 1, 1) := by decide +kernel
theorem dX8_sellAll_36 : decode cX8_sellAll 36 = .ok (.aload_n 0, 1) := by decide +kernel
theorem dX8_sellAll_37 : decode cX8_sellAll 37 = .ok (.getfield 16, 3) := by decide +kernel
theorem dX8_sellAll_40 : decode cX8_sellAll 40 = .ok (.aload_n 0, 1) := by decide +kernel
theorem dX8_sellAll_41 : decode cX8_sellAll 41 = .ok (.getfield 43, 3) := by decide +kernel
theorem dX8_sellAll_44 : decode cX8_sellAll 44 = .ok (.getfield 171, 3) := by decide +kernel
theorem dX8_sellAll_47 : decode cX8_sellAll 47 = .ok (.aload_n 0, 1) := by decide +kernel
theorem dX8_sellAll_48 : decode cX8_sellAll 48 = .ok (.getfield 43, 3) := by decide +kernel
theorem dX8_sellAll_51 : decode cX8_sellAll 51 = .ok (.getfield 174, 3) := by decide +kernel
theorem dX8_sellAll_54 : decode cX8_sellAll 54 = .ok (.invokevirtual 81, 3) := by decide +kernel
theorem dX8_sellAll_57 : decode cX8_sellAll 57 = .ok (.iadd, 1) := by decide +kernel
theorem dX8_sellAll_58 : decode cX8_sellAll 58 = .ok (.istore_n 1, 1) := by decide +kernel
theorem dX8_sellAll_59 : decode cX8_sellAll 59 = .ok (.iinc 2 1, 3) := by decide +kernel
theorem dX8_sellAll_62 : decode cX8_sellAll 62 = .ok (.goto (-47), 3) := by decide +kernel
theorem dX8_sellAll_65 : decode cX8_sellAll 65 = .ok (.iload_n 1, 1) := by decide +kernel
theorem dX8_sellAll_66 : decode cX8_sellAll 66 = .ok (.ireturn, 1) := by decide +kernel
theorem dX8_mean_0 : decode cX8_mean 0 = .ok (.aload_n 0, 1) := by decide +kernel
theorem dX8_mean_1 : decode cX8_mean 1 = .ok (.getfield 10, 3) := by decide +kernel
theorem dX8_mean_4 : decode cX8_mean 4 = .ok (.getfield 180, 3) := by decide +kernel
theorem dX8_mean_7 : decode cX8_mean 7 = .ok (.ifCond .gt 6, 3) := by decide +kernel
theorem dX8_mean_10 : decode cX8_mean 10 = .ok (.ldc 130, 2) := by decide +kernel
theorem dX8_mean_12 : decode cX8_mean 12 = .ok (.ireturn, 1) := by decide +kernel
theorem dX8_mean_13 : decode cX8_mean 13 = .ok (.aload_n 0, 1) := by decide +kernel
theorem dX8_mean_14 : decode cX8_mean 14 = .ok (.getfield 10, 3) := by decide +kernel
theorem dX8_mean_17 : decode cX8_mean 17 = .ok (.getfield 183, 3) := by decide +kernel
theorem dX8_mean_20 : decode cX8_mean 20 = .ok (.i2f, 1) := by decide +kernel
theorem dX8_mean_21 : decode cX8_mean 21 = .ok (.aload_n 0, 1) := by decide +kernel
theorem dX8_mean_22 : decode cX8_mean 22 = .ok (.getfield 10, 3) := by decide +kernel
theorem dX8_mean_25 : decode cX8_mean 25 = .ok (.getfield 180, 3) := by decide +kernel
theorem dX8_mean_28 : decode cX8_mean 28 = .ok (.i2f, 1) := by decide +kernel
theorem dX8_mean_29 : decode cX8_mean 29 = .ok (.fdiv, 1) := by decide +kernel
theorem dX8_mean_30 : decode cX8_mean 30 = .ok (.invokestatic 186, 3) := by decide +kernel
theorem dX8_mean_33 : decode cX8_mean 33 = .ok (.ireturn, 1) := by decide +kernel
theorem dX8_count_0 : decode cX8_count 0 = .ok (.iload_n 1, 1) := by decide +kernel
theorem dX8_count_1 : decode cX8_count 1 = .ok (.lookupswitch 43 #[(11, 27), (12, 35)], 27) := by decide +kernel
theorem dX8_count_28 : decode cX8_count 28 = .ok (.aload_n 0, 1) := by decide +kernel
theorem dX8_count_29 : decode cX8_count 29 = .ok (.getfield 22, 3) := by decide +kernel
theorem dX8_count_32 : decode cX8_count 32 = .ok (.getfield 190, 3) := by decide +kernel
theorem dX8_count_35 : decode cX8_count 35 = .ok (.ireturn, 1) := by decide +kernel
theorem dX8_count_36 : decode cX8_count 36 = .ok (.aload_n 0, 1) := by decide +kernel
theorem dX8_count_37 : decode cX8_count 37 = .ok (.getfield 29, 3) := by decide +kernel
theorem dX8_count_40 : decode cX8_count 40 = .ok (.getfield 193, 3) := by decide +kernel
theorem dX8_count_43 : decode cX8_count 43 = .ok (.ireturn, 1) := by decide +kernel
theorem dX8_count_44 : decode cX8_count 44 = .ok (.aload_n 0, 1) := by decide +kernel
theorem dX8_count_45 : decode cX8_count 45 = .ok (.getfield 10, 3) := by decide +kernel
theorem dX8_count_48 : decode cX8_count 48 = .ok (.iload_n 1, 1) := by decide +kernel
theorem dX8_count_49 : decode cX8_count 49 = .ok (.invokevirtual 196, 3) := by decide +kernel
theorem dX8_count_52 : decode cX8_count 52 = .ok (.ireturn, 1) := by decide +kernel
theorem dX8_undo_0 : decode cX8_undo 0 = .ok (.aload_n 0, 1) := by decide +kernel
theorem dX8_undo_1 : decode cX8_undo 1 = .ok (.getfield 22, 3) := by decide +kernel
theorem dX8_undo_4 : decode cX8_undo 4 = .ok (.aload_n 0, 1) := by decide +kernel
theorem dX8_undo_5 : decode cX8_undo 5 = .ok (.getfield 10, 3) := by decide +kernel
theorem dX8_undo_8 : decode cX8_undo 8 = .ok (.invokevirtual 199, 3) := by decide +kernel
theorem dX8_undo_11 : decode cX8_undo 11 = .ok (.ireturn, 1) := by decide +kernel
theorem dX8_type_0 : decode cX8_type 0 = .ok (.aload_n 0, 1) := by decide +kernel
theorem dX8_type_1 : decode cX8_type 1 = .ok (.getfield 29, 3) := by decide +kernel
theorem dX8_type_4 : decode cX8_type 4 = .ok (.iload_n 1, 1) := by decide +kernel
theorem dX8_type_5 : decode cX8_type 5 = .ok (.invokevirtual 203, 3) := by decide +kernel
theorem dX8_type_8 : decode cX8_type 8 = .ok (.ireturn, 1) := by decide +kernel
theorem dX8_clearText_0 : decode cX8_clearText 0 = .ok (.aload_n 0, 1) := by decide +kernel
theorem dX8_clearText_1 : decode cX8_clearText 1 = .ok (.getfield 29, 3) := by decide +kernel
theorem dX8_clearText_4 : decode cX8_clearText 4 = .ok (.getfield 193, 3) := by decide +kernel
theorem dX8_clearText_7 : decode cX8_clearText 7 = .ok (.istore_n 1, 1) := by decide +kernel
theorem dX8_clearText_8 : decode cX8_clearText 8 = .ok (.aload_n 0, 1) := by decide +kernel
theorem dX8_clearText_9 : decode cX8_clearText 9 = .ok (.getfield 29, 3) := by decide +kernel
theorem dX8_clearText_12 : decode cX8_clearText 12 = .ok (.iconst 0, 1) := by decide +kernel
theorem dX8_clearText_13 : decode cX8_clearText 13 = .ok (.putfield 193, 3) := by decide +kernel
theorem dX8_clearText_16 : decode cX8_clearText 16 = .ok (.iload_n 1, 1) := by decide +kernel
theorem dX8_clearText_17 : decode cX8_clearText 17 = .ok (.ireturn, 1) := by decide +kernel
theorem dX8_fault_0 : decode cX8_fault 0 = .ok (.iload_n 1, 1) := by decide +kernel
theorem dX8_fault_1 : decode cX8_fault 1 = .ok (.iconst 0, 1) := by decide +kernel
theorem dX8_fault_2 : decode cX8_fault 2 = .ok (.iconst 2, 1) := by decide +kernel
theorem dX8_fault_3 : decode cX8_fault 3 = .ok (.invokestatic 138, 3) := by decide +kernel
theorem dX8_fault_6 : decode cX8_fault 6 = .ok (.ifCond .ne 6, 3) := by decide +kernel
theorem dX8_fault_9 : decode cX8_fault 9 = .ok (.ldc 118, 2) := by decide +kernel
theorem dX8_fault_11 : decode cX8_fault 11 = .ok (.ireturn, 1) := by decide +kernel
theorem dX8_fault_12 : decode cX8_fault 12 = .ok (.aload_n 0, 1) := by decide +kernel
theorem dX8_fault_13 : decode cX8_fault 13 = .ok (.getfield 16, 3) := by decide +kernel
theorem dX8_fault_16 : decode cX8_fault 16 = .ok (.aload_n 0, 1) := by decide +kernel
theorem dX8_fault_17 : decode cX8_fault 17 = .ok (.getfield 10, 3) := by decide +kernel
theorem dX8_fault_20 : decode cX8_fault 20 = .ok (.invokevirtual 149, 3) := by decide +kernel
theorem dX8_fault_23 : decode cX8_fault 23 = .ok (.aload_n 0, 1) := by decide +kernel
theorem dX8_fault_24 : decode cX8_fault 24 = .ok (.getfield 36, 3) := by decide +kernel
theorem dX8_fault_27 : decode cX8_fault 27 = .ok (.aload_n 0, 1) := by decide +kernel
theorem dX8_fault_28 : decode cX8_fault 28 = .ok (.getfield 29, 3) := by decide +kernel
theorem dX8_fault_31 : decode cX8_fault 31 = .ok (.aload_n 0, 1) := by decide +kernel
theorem dX8_fault_32 : decode cX8_fault 32 = .ok (.getfield 16, 3) := by decide +kernel
theorem dX8_fault_35 : decode cX8_fault 35 = .ok (.invokevirtual 206, 3) := by decide +kernel
theorem dX8_fault_38 : decode cX8_fault 38 = .ok (.aload_n 0, 1) := by decide +kernel
theorem dX8_fault_39 : decode cX8_fault 39 = .ok (.getfield 36, 3) := by decide +kernel
theorem dX8_fault_42 : decode cX8_fault 42 = .ok (.getfield 210, 3) := by decide +kernel
theorem dX8_fault_45 : decode cX8_fault 45 = .ok (.iconst (-1), 1) := by decide +kernel
theorem dX8_fault_46 : decode cX8_fault 46 = .ok (.if_icmp .ne 6, 3) := by decide +kernel
theorem dX8_fault_49 : decode cX8_fault 49 = .ok (.ldc 130, 2) := by decide +kernel
theorem dX8_fault_51 : decode cX8_fault 51 = .ok (.ireturn, 1) := by decide +kernel
theorem dX8_fault_52 : decode cX8_fault 52 = .ok (.iload_n 1, 1) := by decide +kernel
theorem dX8_fault_53 : decode cX8_fault 53 = .ok (.lookupswitch 43 #[(0, 27), (1, 35)], 27) := by decide +kernel
theorem dX8_fault_80 : decode cX8_fault 80 = .ok (.aload_n 0, 1) := by decide +kernel
theorem dX8_fault_81 : decode cX8_fault 81 = .ok (.getfield 36, 3) := by decide +kernel
theorem dX8_fault_84 : decode cX8_fault 84 = .ok (.getfield 210, 3) := by decide +kernel
theorem dX8_fault_87 : decode cX8_fault 87 = .ok (.ireturn, 1) := by decide +kernel
theorem dX8_fault_88 : decode cX8_fault 88 = .ok (.aload_n 0, 1) := by decide +kernel
theorem dX8_fault_89 : decode cX8_fault 89 = .ok (.getfield 36, 3) := by decide +kernel
theorem dX8_fault_92 : decode cX8_fault 92 = .ok (.getfield 213, 3) := by decide +kernel
theorem dX8_fault_95 : decode cX8_fault 95 = .ok (.ireturn, 1) := by decide +kernel
theorem dX8_fault_96 : decode cX8_fault 96 = .ok (.aload_n 0, 1) := by decide +kernel
theorem dX8_fault_97 : decode cX8_fault 97 = .ok (.getfield 36, 3) := by decide +kernel
theorem dX8_fault_100 : decode cX8_fault 100 = .ok (.getfield 216, 3) := by decide +kernel
theorem dX8_fault_103 : decode cX8_fault 103 = .ok (.ireturn, 1) := by decide +kernel
theorem dX8_play_0 : decode cX8_play 0 = .ok (.aload_n 0, 1) := by decide +kernel
theorem dX8_play_1 : decode cX8_play 1 = .ok (.getfield 16, 3) := by decide +kernel
theorem dX8_play_4 : decode cX8_play 4 = .ok (.aload_n 0, 1) := by decide +kernel
theorem dX8_play_5 : decode cX8_play 5 = .ok (.getfield 10, 3) := by decide +kernel
theorem dX8_play_8 : decode cX8_play 8 = .ok (.invokevirtual 149, 3) := by decide +kernel
theorem dX8_play_11 : decode cX8_play 11 = .ok (.aload_n 0, 1) := by decide +kernel
theorem dX8_play_12 : decode cX8_play 12 = .ok (.getfield 36, 3) := by decide +kernel
theorem dX8_play_15 : decode cX8_play 15 = .ok (.aload_n 0, 1) := by decide +kernel
theorem dX8_play_16 : decode cX8_play 16 = .ok (.getfield 29, 3) := by decide +kernel
theorem dX8_play_19 : decode cX8_play 19 = .ok (.aload_n 0, 1) := by decide +kernel
theorem dX8_play_20 : decode cX8_play 20 = .ok (.getfield 16, 3) := by decide +kernel
theorem dX8_play_23 : decode cX8_play 23 = .ok (.invokevirtual 206, 3) := by decide +kernel
theorem dX8_play_26 : decode cX8_play 26 = .ok (.aload_n 0, 1) := by decide +kernel
theorem dX8_play_27 : decode cX8_play 27 = .ok (.getfield 36, 3) := by decide +kernel
theorem dX8_play_30 : decode cX8_play 30 = .ok (.getfield 210, 3) := by decide +kernel
theorem dX8_play_33 : decode cX8_play 33 = .ok (.iconst (-1), 1) := by decide +kernel
theorem dX8_play_34 : decode cX8_play 34 = .ok (.if_icmp .eq 6, 3) := by decide +kernel
theorem dX8_play_37 : decode cX8_play 37 = .ok (.ldc 219, 2) := by decide +kernel
theorem dX8_play_39 : decode cX8_play 39 = .ok (.ireturn, 1) := by decide +kernel
theorem dX8_play_40 : decode cX8_play 40 = .ok (.aload_n 0, 1) := by decide +kernel
theorem dX8_play_41 : decode cX8_play 41 = .ok (.getfield 22, 3) := by decide +kernel
theorem dX8_play_44 : decode cX8_play 44 = .ok (.aload_n 0, 1) := by decide +kernel
theorem dX8_play_45 : decode cX8_play 45 = .ok (.getfield 10, 3) := by decide +kernel
theorem dX8_play_48 : decode cX8_play 48 = .ok (.invokevirtual 47, 3) := by decide +kernel
theorem dX8_play_51 : decode cX8_play 51 = .ok (.aload_n 0, 1) := by decide +kernel
theorem dX8_play_52 : decode cX8_play 52 = .ok (.getfield 10, 3) := by decide +kernel
theorem dX8_play_55 : decode cX8_play 55 = .ok (.aload_n 0, 1) := by decide +kernel
theorem dX8_play_56 : decode cX8_play 56 = .ok (.getfield 16, 3) := by decide +kernel
theorem dX8_play_59 : decode cX8_play 59 = .ok (.invokevirtual 149, 3) := by decide +kernel
theorem dX8_play_62 : decode cX8_play 62 = .ok (.aload_n 0, 1) := by decide +kernel
theorem dX8_play_63 : decode cX8_play 63 = .ok (.getfield 22, 3) := by decide +kernel
theorem dX8_play_66 : decode cX8_play 66 = .ok (.aload_n 0, 1) := by decide +kernel
theorem dX8_play_67 : decode cX8_play 67 = .ok (.getfield 36, 3) := by decide +kernel
theorem dX8_play_70 : decode cX8_play 70 = .ok (.getfield 220, 3) := by decide +kernel
theorem dX8_play_73 : decode cX8_play 73 = .ok (.invokevirtual 55, 3) := by decide +kernel
theorem dX8_play_76 : decode cX8_play 76 = .ok (.ireturn, 1) := by decide +kernel
theorem dX8_isWithin_0 : decode cX8_isWithin 0 = .ok (.iload_n 0, 1) := by decide +kernel
theorem dX8_isWithin_1 : decode cX8_isWithin 1 = .ok (.iload_n 1, 1) := by decide +kernel
theorem dX8_isWithin_2 : decode cX8_isWithin 2 = .ok (.if_icmp .lt 12, 3) := by decide +kernel
theorem dX8_isWithin_5 : decode cX8_isWithin 5 = .ok (.iload_n 0, 1) := by decide +kernel
theorem dX8_isWithin_6 : decode cX8_isWithin 6 = .ok (.iload_n 2, 1) := by decide +kernel
theorem dX8_isWithin_7 : decode cX8_isWithin 7 = .ok (.if_icmp .gt 7, 3) := by decide +kernel
theorem dX8_isWithin_10 : decode cX8_isWithin 10 = .ok (.iconst 1, 1) := by decide +kernel
theorem dX8_isWithin_11 : decode cX8_isWithin 11 = .ok (.goto 4, 3) := by decide +kernel
theorem dX8_isWithin_14 : decode cX8_isWithin 14 = .ok (.iconst 0, 1) := by decide +kernel
theorem dX8_isWithin_15 : decode cX8_isWithin 15 = .ok (.ireturn, 1) := by decide +kernel
theorem dX8_hasBit_0 : decode cX8_hasBit 0 = .ok (.iload_n 0, 1) := by decide +kernel
theorem dX8_hasBit_1 : decode cX8_hasBit 1 = .ok (.iload_n 1, 1) := by decide +kernel
theorem dX8_hasBit_2 : decode cX8_hasBit 2 = .ok (.ishr, 1) := by decide +kernel
theorem dX8_hasBit_3 : decode cX8_hasBit 3 = .ok (.iconst 1, 1) := by decide +kernel
theorem dX8_hasBit_4 : decode cX8_hasBit 4 = .ok (.iand, 1) := by decide +kernel
theorem dX8_hasBit_5 : decode cX8_hasBit 5 = .ok (.ifCond .eq 7, 3) := by decide +kernel
theorem dX8_hasBit_8 : decode cX8_hasBit 8 = .ok (.iconst 1, 1) := by decide +kernel
theorem dX8_hasBit_9 : decode cX8_hasBit 9 = .ok (.goto 4, 3) := by decide +kernel
theorem dX8_hasBit_12 : decode cX8_hasBit 12 = .ok (.iconst 0, 1) := by decide +kernel
theorem dX8_hasBit_13 : decode cX8_hasBit 13 = .ok (.ireturn, 1) := by decide +kernel
theorem dX8_copyRow_0 : decode cX8_copyRow 0 = .ok (.aload_n 0, 1) := by decide +kernel
theorem dX8_copyRow_1 : decode cX8_copyRow 1 = .ok (.iconst 0, 1) := by decide +kernel
theorem dX8_copyRow_2 : decode cX8_copyRow 2 = .ok (.aload_n 1, 1) := by decide +kernel
theorem dX8_copyRow_3 : decode cX8_copyRow 3 = .ok (.iconst 0, 1) := by decide +kernel
theorem dX8_copyRow_4 : decode cX8_copyRow 4 = .ok (.aload_n 0, 1) := by decide +kernel
theorem dX8_copyRow_5 : decode cX8_copyRow 5 = .ok (.arraylength, 1) := by decide +kernel
theorem dX8_copyRow_6 : decode cX8_copyRow 6 = .ok (.aload_n 1, 1) := by decide +kernel
theorem dX8_copyRow_7 : decode cX8_copyRow 7 = .ok (.arraylength, 1) := by decide +kernel
theorem dX8_copyRow_8 : decode cX8_copyRow 8 = .ok (.invokestatic 223, 3) := by decide +kernel
theorem dX8_copyRow_11 : decode cX8_copyRow 11 = .ok (.invokestatic 228, 3) := by decide +kernel
theorem dX8_copyRow_14 : decode cX8_copyRow 14 = .ok (.return_, 1) := by decide +kernel
theorem dX8_bitsOf_0 : decode cX8_bitsOf 0 = .ok (.fload_n 0, 1) := by decide +kernel
theorem dX8_bitsOf_1 : decode cX8_bitsOf 1 = .ok (.fconst 0, 1) := by decide +kernel
theorem dX8_bitsOf_2 : decode cX8_bitsOf 2 = .ok (.fcmp .g, 1) := by decide +kernel
theorem dX8_bitsOf_3 : decode cX8_bitsOf 3 = .ok (.ifCond .gt 5, 3) := by decide +kernel
theorem dX8_bitsOf_6 : decode cX8_bitsOf 6 = .ok (.iconst 0, 1) := by decide +kernel
theorem dX8_bitsOf_7 : decode cX8_bitsOf 7 = .ok (.ireturn, 1) := by decide +kernel
theorem dX8_bitsOf_8 : decode cX8_bitsOf 8 = .ok (.fload_n 0, 1) := by decide +kernel
theorem dX8_bitsOf_9 : decode cX8_bitsOf 9 = .ok (.fstore_n 1, 1) := by decide +kernel
theorem dX8_bitsOf_10 : decode cX8_bitsOf 10 = .ok (.bipush 127, 2) := by decide +kernel
theorem dX8_bitsOf_12 : decode cX8_bitsOf 12 = .ok (.istore_n 2, 1) := by decide +kernel
theorem dX8_bitsOf_13 : decode cX8_bitsOf 13 = .ok (.iconst 0, 1) := by decide +kernel
theorem dX8_bitsOf_14 : decode cX8_bitsOf 14 = .ok (.istore_n 3, 1) := by decide +kernel
theorem dX8_bitsOf_15 : decode cX8_bitsOf 15 = .ok (.iload_n 3, 1) := by decide +kernel
theorem dX8_bitsOf_16 : decode cX8_bitsOf 16 = .ok (.bipush 127, 2) := by decide +kernel
theorem dX8_bitsOf_18 : decode cX8_bitsOf 18 = .ok (.if_icmp .ge 22, 3) := by decide +kernel
theorem dX8_bitsOf_21 : decode cX8_bitsOf 21 = .ok (.fload_n 1, 1) := by decide +kernel
theorem dX8_bitsOf_22 : decode cX8_bitsOf 22 = .ok (.fconst 2, 1) := by decide +kernel
theorem dX8_bitsOf_23 : decode cX8_bitsOf 23 = .ok (.fcmp .l, 1) := by decide +kernel
theorem dX8_bitsOf_24 : decode cX8_bitsOf 24 = .ok (.ifCond .lt 16, 3) := by decide +kernel
theorem dX8_bitsOf_27 : decode cX8_bitsOf 27 = .ok (.fload_n 1, 1) := by decide +kernel
theorem dX8_bitsOf_28 : decode cX8_bitsOf 28 = .ok (.fconst 2, 1) := by decide +kernel
theorem dX8_bitsOf_29 : decode cX8_bitsOf 29 = .ok (.fdiv, 1) := by decide +kernel
theorem dX8_bitsOf_30 : decode cX8_bitsOf 30 = .ok (.fstore_n 1, 1) := by decide +kernel
theorem dX8_bitsOf_31 : decode cX8_bitsOf 31 = .ok (.iinc 2 1, 3) := by decide +kernel
theorem dX8_bitsOf_34 : decode cX8_bitsOf 34 = .ok (.iinc 3 1, 3) := by decide +kernel
theorem dX8_bitsOf_37 : decode cX8_bitsOf 37 = .ok (.goto (-22), 3) := by decide +kernel
theorem dX8_bitsOf_40 : decode cX8_bitsOf 40 = .ok (.iconst 0, 1) := by decide +kernel
theorem dX8_bitsOf_41 : decode cX8_bitsOf 41 = .ok (.istore_n 3, 1) := by decide +kernel
theorem dX8_bitsOf_42 : decode cX8_bitsOf 42 = .ok (.iload_n 3, 1) := by decide +kernel
theorem dX8_bitsOf_43 : decode cX8_bitsOf 43 = .ok (.bipush 126, 2) := by decide +kernel
theorem dX8_bitsOf_45 : decode cX8_bitsOf 45 = .ok (.if_icmp .ge 22, 3) := by decide +kernel
theorem dX8_bitsOf_48 : decode cX8_bitsOf 48 = .ok (.fload_n 1, 1) := by decide +kernel
theorem dX8_bitsOf_49 : decode cX8_bitsOf 49 = .ok (.fconst 1, 1) := by decide +kernel
theorem dX8_bitsOf_50 : decode cX8_bitsOf 50 = .ok (.fcmp .g, 1) := by decide +kernel
theorem dX8_bitsOf_51 : decode cX8_bitsOf 51 = .ok (.ifCond .ge 16, 3) := by decide +kernel
theorem dX8_bitsOf_54 : decode cX8_bitsOf 54 = .ok (.fload_n 1, 1) := by decide +kernel
theorem dX8_bitsOf_55 : decode cX8_bitsOf 55 = .ok (.fconst 2, 1) := by decide +kernel
theorem dX8_bitsOf_56 : decode cX8_bitsOf 56 = .ok (.fmul, 1) := by decide +kernel
theorem dX8_bitsOf_57 : decode cX8_bitsOf 57 = .ok (.fstore_n 1, 1) := by decide +kernel
theorem dX8_bitsOf_58 : decode cX8_bitsOf 58 = .ok (.iinc 2 (-1), 3) := by decide +kernel
theorem dX8_bitsOf_61 : decode cX8_bitsOf 61 = .ok (.iinc 3 1, 3) := by decide +kernel
theorem dX8_bitsOf_64 : decode cX8_bitsOf 64 = .ok (.goto (-22), 3) := by decide +kernel
theorem dX8_bitsOf_67 : decode cX8_bitsOf 67 = .ok (.iload_n 2, 1) := by decide +kernel
theorem dX8_bitsOf_68 : decode cX8_bitsOf 68 = .ok (.bipush 23, 2) := by decide +kernel
theorem dX8_bitsOf_70 : decode cX8_bitsOf 70 = .ok (.ishl, 1) := by decide +kernel
theorem dX8_bitsOf_71 : decode cX8_bitsOf 71 = .ok (.fload_n 1, 1) := by decide +kernel
theorem dX8_bitsOf_72 : decode cX8_bitsOf 72 = .ok (.fconst 1, 1) := by decide +kernel
theorem dX8_bitsOf_73 : decode cX8_bitsOf 73 = .ok (.fsub, 1) := by decide +kernel
theorem dX8_bitsOf_74 : decode cX8_bitsOf 74 = .ok (.ldc 234, 2) := by decide +kernel
theorem dX8_bitsOf_76 : decode cX8_bitsOf 76 = .ok (.fmul, 1) := by decide +kernel
theorem dX8_bitsOf_77 : decode cX8_bitsOf 77 = .ok (.f2i, 1) := by decide +kernel
theorem dX8_bitsOf_78 : decode cX8_bitsOf 78 = .ok (.iadd, 1) := by decide +kernel
theorem dX8_bitsOf_79 : decode cX8_bitsOf 79 = .ok (.ireturn, 1) := by decide +kernel
theorem dX9_init_0 : decode cX9_init 0 = .ok (.aload_n 0, 1) := by decide +kernel
theorem dX9_init_1 : decode cX9_init 1 = .ok (.invokespecial 1, 3) := by decide +kernel
theorem dX9_init_4 : decode cX9_init 4 = .ok (.aload_n 0, 1) := by decide +kernel
theorem dX9_init_5 : decode cX9_init 5 = .ok (.sipush 183, 3) := by decide +kernel
theorem dX9_init_8 : decode cX9_init 8 = .ok (.newarray .int, 2) := by decide +kernel
theorem dX9_init_10 : decode cX9_init 10 = .ok (.putfield 7, 3) := by decide +kernel
theorem dX9_init_13 : decode cX9_init 13 = .ok (.aload_n 0, 1) := by decide +kernel
theorem dX9_init_14 : decode cX9_init 14 = .ok (.sipush 732, 3) := by decide +kernel
theorem dX9_init_17 : decode cX9_init 17 = .ok (.newarray .int, 2) := by decide +kernel
theorem dX9_init_19 : decode cX9_init 19 = .ok (.putfield 13, 3) := by decide +kernel
theorem dX9_init_22 : decode cX9_init 22 = .ok (.aload_n 0, 1) := by decide +kernel
theorem dX9_init_23 : decode cX9_init 23 = .ok (.sipush 183, 3) := by decide +kernel
theorem dX9_init_26 : decode cX9_init 26 = .ok (.newarray .int, 2) := by decide +kernel
theorem dX9_init_28 : decode cX9_init 28 = .ok (.putfield 16, 3) := by decide +kernel
theorem dX9_init_31 : decode cX9_init 31 = .ok (.aload_n 0, 1) := by decide +kernel
theorem dX9_init_32 : decode cX9_init 32 = .ok (.sipush 183, 3) := by decide +kernel
theorem dX9_init_35 : decode cX9_init 35 = .ok (.newarray .int, 2) := by decide +kernel
theorem dX9_init_37 : decode cX9_init 37 = .ok (.putfield 19, 3) := by decide +kernel
theorem dX9_init_40 : decode cX9_init 40 = .ok (.aload_n 0, 1) := by decide +kernel
theorem dX9_init_41 : decode cX9_init 41 = .ok (.bipush 60, 2) := by decide +kernel
theorem dX9_init_43 : decode cX9_init 43 = .ok (.newarray .int, 2) := by decide +kernel
theorem dX9_init_45 : decode cX9_init 45 = .ok (.putfield 22, 3) := by decide +kernel
theorem dX9_init_48 : decode cX9_init 48 = .ok (.aload_n 0, 1) := by decide +kernel
theorem dX9_init_49 : decode cX9_init 49 = .ok (.iconst 2, 1) := by decide +kernel
theorem dX9_init_50 : decode cX9_init 50 = .ok (.newarray .int, 2) := by decide +kernel
theorem dX9_init_52 : decode cX9_init 52 = .ok (.putfield 25, 3) := by decide +kernel
theorem dX9_init_55 : decode cX9_init 55 = .ok (.aload_n 0, 1) := by decide +kernel
theorem dX9_init_56 : decode cX9_init 56 = .ok (.getfield 7, 3) := by decide +kernel
theorem dX9_init_59 : decode cX9_init 59 = .ok (.iconst 5, 1) := by decide +kernel
theorem dX9_init_60 : decode cX9_init 60 = .ok (.iconst (-1), 1) := by decide +kernel
theorem dX9_init_61 : decode cX9_init 61 = .ok (.iastore, 1) := by decide +kernel
theorem dX9_init_62 : decode cX9_init 62 = .ok (.aload_n 0, 1) := by decide +kernel
theorem dX9_init_63 : decode cX9_init 63 = .ok (.getfield 7, 3) := by decide +kernel
theorem dX9_init_66 : decode cX9_init 66 = .ok (.bipush 9, 2) := by decide +kernel
theorem dX9_init_68 : decode cX9_init 68 = .ok (.bipush 40, 2) := by decide +kernel
theorem dX9_init_70 : decode cX9_init 70 = .ok (.iastore, 1) := by decide +kernel
theorem dX9_init_71 : decode cX9_init 71 = .ok (.aload_n 0, 1) := by decide +kernel
theorem dX9_init_72 : decode cX9_init 72 = .ok (.getfield 7, 3) := by decide +kernel
theorem dX9_init_75 : decode cX9_init 75 = .ok (.bipush 10, 2) := by decide +kernel
theorem dX9_init_77 : decode cX9_init 77 = .ok (.bipush 10, 2) := by decide +kernel
theorem dX9_init_79 : decode cX9_init 79 = .ok (.iastore, 1) := by decide +kernel
theorem dX9_init_80 : decode cX9_init 80 = .ok (.return_, 1) := by decide +kernel
theorem dX9_in_0 : decode cX9_in 0 = .ok (.iload_n 0, 1) := by decide +kernel
theorem dX9_in_1 : decode cX9_in 1 = .ok (.iload_n 1, 1) := by decide +kernel
theorem dX9_in_2 : decode cX9_in 2 = .ok (.if_icmp .lt 12, 3) := by decide +kernel
theorem dX9_in_5 : decode cX9_in 5 = .ok (.iload_n 0, 1) := by decide +kernel
theorem dX9_in_6 : decode cX9_in 6 = .ok (.iload_n 2, 1) := by decide +kernel
theorem dX9_in_7 : decode cX9_in 7 = .ok (.if_icmp .gt 7, 3) := by decide +kernel
theorem dX9_in_10 : decode cX9_in 10 = .ok (.iconst 1, 1) := by decide +kernel
theorem dX9_in_11 : decode cX9_in 11 = .ok (.goto 4, 3) := by decide +kernel
theorem dX9_in_14 : decode cX9_in 14 = .ok (.iconst 0, 1) := by decide +kernel
theorem dX9_in_15 : decode cX9_in 15 = .ok (.ireturn, 1) := by decide +kernel
theorem dX9_copies_0 : decode cX9_copies 0 = .ok (.iconst 0, 1) := by decide +kernel
theorem dX9_copies_1 : decode cX9_copies 1 = .ok (.istore_n 2, 1) := by decide +kernel
theorem dX9_copies_2 : decode cX9_copies 2 = .ok (.iload_n 2, 1) := by decide +kernel
theorem dX9_copies_3 : decode cX9_copies 3 = .ok (.sipush 183, 3) := by decide +kernel
theorem dX9_copies_6 : decode cX9_copies 6 = .ok (.if_icmp .ge 15, 3) := by decide +kernel
theorem dX9_copies_9 : decode cX9_copies 9 = .ok (.aload_n 1, 1) := by decide +kernel
theorem dX9_copies_10 : decode cX9_copies 10 = .ok (.iload_n 2, 1) := by decide +kernel
theorem dX9_copies_11 : decode cX9_copies 11 = .ok (.aload_n 0, 1) := by decide +kernel
theorem dX9_copies_12 : decode cX9_copies 12 = .ok (.iload_n 2, 1) := by decide +kernel
theorem dX9_copies_13 : decode cX9_copies 13 = .ok (.iaload, 1) := by decide +kernel
theorem dX9_copies_14 : decode cX9_copies 14 = .ok (.iastore, 1) := by decide +kernel
theorem dX9_copies_15 : decode cX9_copies 15 = .ok (.iinc 2 1, 3) := by decide +kernel
theorem dX9_copies_18 : decode cX9_copies 18 = .ok (.goto (-16), 3) := by decide +kernel
theorem dX9_copies_21 : decode cX9_copies 21 = .ok (.return_, 1) := by decide +kernel
theorem dX9_changes_0 : decode cX9_changes 0 = .ok (.aload_n 0, 1) := by decide +kernel
theorem dX9_changes_1 : decode cX9_changes 1 = .ok (.getfield 28, 3) := by decide +kernel
theorem dX9_changes_4 : decode cX9_changes 4 = .ok (.ifCond .eq 4, 3) := by decide +kernel
theorem dX9_changes_7 : decode cX9_changes 7 = .ok (.return_, 1) := by decide +kernel
theorem dX9_changes_8 : decode cX9_changes 8 = .ok (.aload_n 0, 1) := by decide +kernel
theorem dX9_changes_9 : decode cX9_changes 9 = .ok (.getfield 32, 3) := by decide +kernel
theorem dX9_changes_12 : decode cX9_changes 12 = .ok (.iconst 4, 1) := by decide +kernel
theorem dX9_changes_13 : decode cX9_changes 13 = .ok (.if_icmp .ne 44, 3) := by decide +kernel
theorem dX9_changes_16 : decode cX9_changes 16 = .ok (.iconst 0, 1) := by decide +kernel
theorem dX9_changes_17 : decode cX9_changes 17 = .ok (.istore_n 1, 1) := by decide +kernel
theorem dX9_changes_18 : decode cX9_changes 18 = .ok (.iload_n 1, 1) := by decide +kernel
theorem dX9_changes_19 : decode cX9_changes 19 = .ok (.sipush 549, 3) := by decide +kernel
theorem dX9_changes_22 : decode cX9_changes 22 = .ok (.if_icmp .ge 25, 3) := by decide +kernel
theorem dX9_changes_25 : decode cX9_changes 25 = .ok (.aload_n 0, 1) := by decide +kernel
theorem dX9_changes_26 : decode cX9_changes 26 = .ok (.getfield 13, 3) := by decide +kernel
theorem dX9_changes_29 : decode cX9_changes 29 = .ok (.iload_n 1, 1) := by decide +kernel
theorem dX9_changes_30 : decode cX9_changes 30 = .ok (.aload_n 0, 1) := by decide +kernel
theorem dX9_changes_31 : decode cX9_changes 31 = .ok (.getfield 13, 3) := by decide +kernel
theorem dX9_changes_34 : decode cX9_changes 34 = .ok (.iload_n 1, 1) := by decide +kernel
theorem dX9_changes_35 : decode cX9_changes 35 = .ok (.sipush 183, 3) := by decide +kernel
theorem dX9_changes_38 : decode cX9_changes 38 = .ok (.iadd, 1) := by decide +kernel
theorem dX9_changes_39 : decode cX9_changes 39 = .ok (.iaload, 1) := by decide +kernel
theorem dX9_changes_40 : decode cX9_changes 40 = .ok (.iastore, 1) := by decide +kernel
theorem dX9_changes_41 : decode cX9_changes 41 = .ok (.iinc 1 1, 3) := by decide +kernel
theorem dX9_changes_44 : decode cX9_changes 44 = .ok (.goto (-26), 3) := by decide +kernel
theorem dX9_changes_47 : decode cX9_changes 47 = .ok (.aload_n 0, 1) := by decide +kernel
theorem dX9_changes_48 : decode cX9_changes 48 = .ok (.dup, 1) := by decide +kernel
theorem dX9_changes_49 : decode cX9_changes 49 = .ok (.getfield 32, 3) := by decide +kernel
theorem dX9_changes_52 : decode cX9_changes 52 = .ok (.iconst 1, 1) := by decide +kernel
theorem dX9_changes_53 : decode cX9_changes 53 = .ok (.isub, 1) := by decide +kernel
theorem dX9_changes_54 : decode cX9_changes 54 = .ok (.putfield 32, 3) := by decide +kernel
theorem dX9_changes_57 : decode cX9_changes 57 = .ok (.iconst 0, 1) := by decide +kernel
theorem dX9_changes_58 : decode cX9_changes 58 = .ok (.istore_n 1, 1) := by decide +kernel
theorem dX9_changes_59 : decode cX9_changes 59 = .ok (.iload_n 1, 1) := by decide +kernel
theorem dX9_changes_60 : decode cX9_changes 60 = .ok (.sipush 183, 3) := by decide +kernel
theorem dX9_changes_63 : decode cX9_changes 63 = .ok (.if_icmp .ge 30, 3) := by decide +kernel
theorem dX9_changes_66 : decode cX9_changes 66 = .ok (.aload_n 0, 1) := by decide +kernel
theorem dX9_changes_67 : decode cX9_changes 67 = .ok (.getfield 13, 3) := by decide +kernel
theorem dX9_changes_70 : decode cX9_changes 70 = .ok (.sipush 183, 3) := by decide +kernel
theorem dX9_changes_73 : decode cX9_changes 73 = .ok (.aload_n 0, 1) := by decide +kernel
theorem dX9_changes_74 : decode cX9_changes 74 = .ok (.getfield 32, 3) := by decide +kernel
theorem dX9_changes_77 : decode cX9_changes 77 = .ok (.imul, 1) := by decide +kernel
theorem dX9_changes_78 : decode cX9_changes 78 = .ok (.iload_n 1, 1) := by decide +kernel
theorem dX9_changes_79 : decode cX9_changes 79 = .ok (.iadd, 1) := by decide +kernel
theorem dX9_changes_80 : decode cX9_changes 80 = .ok (.aload_n 0, 1) := by decide +kernel
theorem dX9_changes_81 : decode cX9_changes 81 = .ok (.getfield 7, 3) := by decide +kernel
theorem dX9_changes_84 : decode cX9_changes 84 = .ok (.iload_n 1, 1) := by decide +kernel
theorem dX9_changes_85 : decode cX9_changes 85 = .ok (.iaload, 1) := by decide +kernel
theorem dX9_changes_86 : decode cX9_changes 86 = .ok (.iastore, 1) := by decide +kernel
theorem dX9_changes_87 : decode cX9_changes 87 = .ok (.iinc 1 1, 3) := by decide +kernel
theorem dX9_changes_90 : decode cX9_changes 90 = .ok (.goto (-31), 3) := by decide +kernel
theorem dX9_changes_93 : decode cX9_changes 93 = .ok (.aload_n 0, 1) := by decide +kernel
theorem dX9_changes_94 : decode cX9_changes 94 = .ok (.dup, 1) := by decide +kernel
theorem dX9_changes_95 : decode cX9_changes 95 = .ok (.getfield 32, 3) := by decide +kernel
theorem dX9_changes_98 : decode cX9_changes 98 = .ok (.iconst 1, 1) := by decide +kernel
theorem dX9_changes_99 : decode cX9_changes 99 = .ok (.iadd, 1) := by decide +kernel
theorem dX9_changes_100 : decode cX9_changes 100 = .ok (.putfield 32, 3) := by decide +kernel
theorem dX9_changes_103 : decode cX9_changes 103 = .ok (.return_, 1) := by decide +kernel
theorem dX9_ones_0 : decode cX9_ones 0 = .ok (.iconst 0, 1) := by decide +kernel
theorem dX9_ones_1 : decode cX9_ones 1 = .ok (.istore_n 1, 1) := by decide +kernel
theorem dX9_ones_2 : decode cX9_ones 2 = .ok (.iload_n 0, 1) := by decide +kernel
theorem dX9_ones_3 : decode cX9_ones 3 = .ok (.istore_n 2, 1) := by decide +kernel
theorem dX9_ones_4 : decode cX9_ones 4 = .ok (.iload_n 2, 1) := by decide +kernel
theorem dX9_ones_5 : decode cX9_ones 5 = .ok (.ifCond .eq 15, 3) := by decide +kernel
theorem dX9_ones_8 : decode cX9_ones 8 = .ok (.iinc 1 1, 3) := by decide +kernel
theorem dX9_ones_11 : decode cX9_ones 11 = .ok (.iload_n 2, 1) := by decide +kernel
theorem dX9_ones_12 : decode cX9_ones 12 = .ok (.iload_n 2, 1) := by decide +kernel
theorem dX9_ones_13 : decode cX9_ones 13 = .ok (.iconst 1, 1) := by decide +kernel
theorem dX9_ones_14 : decode cX9_ones 14 = .ok (.isub, 1) := by decide +kernel
theorem dX9_ones_15 : decode cX9_ones 15 = .ok (.iand, 1) := by decide +kernel
theorem dX9_ones_16 : decode cX9_ones 16 = .ok (.istore_n 2, 1) := by decide +kernel
theorem dX9_ones_17 : decode cX9_ones 17 = .ok (.goto (-13), 3) := by decide +kernel
theorem dX9_ones_20 : decode cX9_ones 20 = .ok (.iload_n 1, 1) := by decide +kernel
theorem dX9_ones_21 : decode cX9_ones 21 = .ok (.ireturn, 1) := by decide +kernel
theorem dX9_isPerson_0 : decode cX9_isPerson 0 = .ok (.iload_n 1, 1) := by decide +kernel
theorem dX9_isPerson_1 : decode cX9_isPerson 1 = .ok (.ifCond .lt 17, 3) := by decide +kernel
theorem dX9_isPerson_4 : decode cX9_isPerson 4 = .ok (.iload_n 1, 1) := by decide +kernel
theorem dX9_isPerson_5 : decode cX9_isPerson 5 = .ok (.aload_n 0, 1) := by decide +kernel
theorem dX9_isPerson_6 : decode cX9_isPerson 6 = .ok (.getfield 7, 3) := by decide +kernel
theorem dX9_isPerson_9 : decode cX9_isPerson 9 = .ok (.iconst 0, 1) := by decide +kernel
