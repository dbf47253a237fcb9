theorem dX9_isPerson_10 : decode cX9_isPerson 10 = .ok (.iaload, 1) := by decide +kernel
theorem dX9_isPerson_11 : decode cX9_isPerson 11 = .ok (.if_icmp .ge 7, 3) := by decide +kernel
theorem dX9_isPerson_14 : decode cX9_isPerson 14 = .ok (.iconst 1, 1) := by decide +kernel
theorem dX9_isPerson_15 : decode cX9_isPerson 15 = .ok (.goto 4, 3) := by decide +kernel
theorem dX9_isPerson_18 : decode cX9_isPerson 18 = .ok (.iconst 0, 1) := by decide +kernel
theorem dX9_isPerson_19 : decode cX9_isPerson 19 = .ok (.ireturn, 1) := by decide +kernel
theorem dX9_isPaper_0 : decode cX9_isPaper 0 = .ok (.iload_n 1, 1) := by decide +kernel
theorem dX9_isPaper_1 : decode cX9_isPaper 1 = .ok (.ifCond .lt 17, 3) := by decide +kernel
theorem dX9_isPaper_4 : decode cX9_isPaper 4 = .ok (.iload_n 1, 1) := by decide +kernel
theorem dX9_isPaper_5 : decode cX9_isPaper 5 = .ok (.aload_n 0, 1) := by decide +kernel
theorem dX9_isPaper_6 : decode cX9_isPaper 6 = .ok (.getfield 7, 3) := by decide +kernel
theorem dX9_isPaper_9 : decode cX9_isPaper 9 = .ok (.iconst 1, 1) := by decide +kernel
theorem dX9_isPaper_10 : decode cX9_isPaper 10 = .ok (.iaload, 1) := by decide +kernel
theorem dX9_isPaper_11 : decode cX9_isPaper 11 = .ok (.if_icmp .ge 7, 3) := by decide +kernel
theorem dX9_isPaper_14 : decode cX9_isPaper 14 = .ok (.iconst 1, 1) := by decide +kernel
theorem dX9_isPaper_15 : decode cX9_isPaper 15 = .ok (.goto 4, 3) := by decide +kernel
theorem dX9_isPaper_18 : decode cX9_isPaper 18 = .ok (.iconst 0, 1) := by decide +kernel
theorem dX9_isPaper_19 : decode cX9_isPaper 19 = .ok (.ireturn, 1) := by decide +kernel
theorem dX9_of_0 : decode cX9_of 0 = .ok (.aload_n 0, 1) := by decide +kernel
theorem dX9_of_1 : decode cX9_of 1 = .ok (.getfield 7, 3) := by decide +kernel
theorem dX9_of_4 : decode cX9_of 4 = .ok (.bipush 11, 2) := by decide +kernel
theorem dX9_of_6 : decode cX9_of 6 = .ok (.bipush 18, 2) := by decide +kernel
theorem dX9_of_8 : decode cX9_of 8 = .ok (.iload_n 1, 1) := by decide +kernel
theorem dX9_of_9 : decode cX9_of 9 = .ok (.imul, 1) := by decide +kernel
theorem dX9_of_10 : decode cX9_of 10 = .ok (.iadd, 1) := by decide +kernel
theorem dX9_of_11 : decode cX9_of 11 = .ok (.iload_n 2, 1) := by decide +kernel
theorem dX9_of_12 : decode cX9_of 12 = .ok (.iadd, 1) := by decide +kernel
theorem dX9_of_13 : decode cX9_of 13 = .ok (.iaload, 1) := by decide +kernel
theorem dX9_of_14 : decode cX9_of 14 = .ok (.ireturn, 1) := by decide +kernel
theorem dX9_sets_0 : decode cX9_sets 0 = .ok (.aload_n 0, 1) := by decide +kernel
theorem dX9_sets_1 : decode cX9_sets 1 = .ok (.getfield 7, 3) := by decide +kernel
theorem dX9_sets_4 : decode cX9_sets 4 = .ok (.bipush 11, 2) := by decide +kernel
theorem dX9_sets_6 : decode cX9_sets 6 = .ok (.bipush 18, 2) := by decide +kernel
theorem dX9_sets_8 : decode cX9_sets 8 = .ok (.iload_n 1, 1) := by decide +kernel
theorem dX9_sets_9 : decode cX9_sets 9 = .ok (.imul, 1) := by decide +kernel
theorem dX9_sets_10 : decode cX9_sets 10 = .ok (.iadd, 1) := by decide +kernel
theorem dX9_sets_11 : decode cX9_sets 11 = .ok (.iload_n 2, 1) := by decide +kernel
theorem dX9_sets_12 : decode cX9_sets 12 = .ok (.iadd, 1) := by decide +kernel
theorem dX9_sets_13 : decode cX9_sets 13 = .ok (.iload_n 3, 1) := by decide +kernel
theorem dX9_sets_14 : decode cX9_sets 14 = .ok (.iastore, 1) := by decide +kernel
theorem dX9_sets_15 : decode cX9_sets 15 = .ok (.return_, 1) := by decide +kernel
theorem dX9_ofSheet_0 : decode cX9_ofSheet 0 = .ok (.aload_n 0, 1) := by decide +kernel
theorem dX9_ofSheet_1 : decode cX9_ofSheet 1 = .ok (.getfield 7, 3) := by decide +kernel
theorem dX9_ofSheet_4 : decode cX9_ofSheet 4 = .ok (.bipush 119, 2) := by decide +kernel
theorem dX9_ofSheet_6 : decode cX9_ofSheet 6 = .ok (.iconst 4, 1) := by decide +kernel
theorem dX9_ofSheet_7 : decode cX9_ofSheet 7 = .ok (.iload_n 1, 1) := by decide +kernel
theorem dX9_ofSheet_8 : decode cX9_ofSheet 8 = .ok (.imul, 1) := by decide +kernel
theorem dX9_ofSheet_9 : decode cX9_ofSheet 9 = .ok (.iadd, 1) := by decide +kernel
theorem dX9_ofSheet_10 : decode cX9_ofSheet 10 = .ok (.iload_n 2, 1) := by decide +kernel
theorem dX9_ofSheet_11 : decode cX9_ofSheet 11 = .ok (.iadd, 1) := by decide +kernel
theorem dX9_ofSheet_12 : decode cX9_ofSheet 12 = .ok (.iaload, 1) := by decide +kernel
theorem dX9_ofSheet_13 : decode cX9_ofSheet 13 = .ok (.ireturn, 1) := by decide +kernel
theorem dX9_ofPaper_0 : decode cX9_ofPaper 0 = .ok (.aload_n 0, 1) := by decide +kernel
theorem dX9_ofPaper_1 : decode cX9_ofPaper 1 = .ok (.getfield 7, 3) := by decide +kernel
theorem dX9_ofPaper_4 : decode cX9_ofPaper 4 = .ok (.sipush 159, 3) := by decide +kernel
theorem dX9_ofPaper_7 : decode cX9_ofPaper 7 = .ok (.bipush 6, 2) := by decide +kernel
theorem dX9_ofPaper_9 : decode cX9_ofPaper 9 = .ok (.iload_n 1, 1) := by decide +kernel
theorem dX9_ofPaper_10 : decode cX9_ofPaper 10 = .ok (.imul, 1) := by decide +kernel
theorem dX9_ofPaper_11 : decode cX9_ofPaper 11 = .ok (.iadd, 1) := by decide +kernel
theorem dX9_ofPaper_12 : decode cX9_ofPaper 12 = .ok (.iload_n 2, 1) := by decide +kernel
theorem dX9_ofPaper_13 : decode cX9_ofPaper 13 = .ok (.iadd, 1) := by decide +kernel
theorem dX9_ofPaper_14 : decode cX9_ofPaper 14 = .ok (.iaload, 1) := by decide +kernel
theorem dX9_ofPaper_15 : decode cX9_ofPaper 15 = .ok (.ireturn, 1) := by decide +kernel
theorem dX9_day_0 : decode cX9_day 0 = .ok (.aload_n 0, 1) := by decide +kernel
theorem dX9_day_1 : decode cX9_day 1 = .ok (.getfield 7, 3) := by decide +kernel
theorem dX9_day_4 : decode cX9_day 4 = .ok (.iconst 4, 1) := by decide +kernel
theorem dX9_day_5 : decode cX9_day 5 = .ok (.iaload, 1) := by decide +kernel
theorem dX9_day_6 : decode cX9_day 6 = .ok (.sipush 300, 3) := by decide +kernel
theorem dX9_day_9 : decode cX9_day 9 = .ok (.idiv, 1) := by decide +kernel
theorem dX9_day_10 : decode cX9_day 10 = .ok (.ireturn, 1) := by decide +kernel
theorem dX9_isHidden_0 : decode cX9_isHidden 0 = .ok (.iconst 0, 1) := by decide +kernel
theorem dX9_isHidden_1 : decode cX9_isHidden 1 = .ok (.istore_n 2, 1) := by decide +kernel
theorem dX9_isHidden_2 : decode cX9_isHidden 2 = .ok (.iconst 0, 1) := by decide +kernel
theorem dX9_isHidden_3 : decode cX9_isHidden 3 = .ok (.istore_n 3, 1) := by decide +kernel
theorem dX9_isHidden_4 : decode cX9_isHidden 4 = .ok (.iload_n 3, 1) := by decide +kernel
theorem dX9_isHidden_5 : decode cX9_isHidden 5 = .ok (.aload_n 0, 1) := by decide +kernel
theorem dX9_isHidden_6 : decode cX9_isHidden 6 = .ok (.getfield 7, 3) := by decide +kernel
theorem dX9_isHidden_9 : decode cX9_isHidden 9 = .ok (.iconst 0, 1) := by decide +kernel
theorem dX9_isHidden_10 : decode cX9_isHidden 10 = .ok (.iaload, 1) := by decide +kernel
theorem dX9_isHidden_11 : decode cX9_isHidden 11 = .ok (.if_icmp .ge 49, 3) := by decide +kernel
theorem dX9_isHidden_14 : decode cX9_isHidden 14 = .ok (.iload_n 2, 1) := by decide +kernel
theorem dX9_isHidden_15 : decode cX9_isHidden 15 = .ok (.ifCond .ne 33, 3) := by decide +kernel
theorem dX9_isHidden_18 : decode cX9_isHidden 18 = .ok (.aload_n 0, 1) := by decide +kernel
theorem dX9_isHidden_19 : decode cX9_isHidden 19 = .ok (.iload_n 3, 1) := by decide +kernel
theorem dX9_isHidden_20 : decode cX9_isHidden 20 = .ok (.iconst 1, 1) := by decide +kernel
theorem dX9_isHidden_21 : decode cX9_isHidden 21 = .ok (.invokevirtual 36, 3) := by decide +kernel
theorem dX9_isHidden_24 : decode cX9_isHidden 24 = .ok (.aload_n 0, 1) := by decide +kernel
theorem dX9_isHidden_25 : decode cX9_isHidden 25 = .ok (.iload_n 1, 1) := by decide +kernel
theorem dX9_isHidden_26 : decode cX9_isHidden 26 = .ok (.iconst 1, 1) := by decide +kernel
theorem dX9_isHidden_27 : decode cX9_isHidden 27 = .ok (.invokevirtual 36, 3) := by decide +kernel
theorem dX9_isHidden_30 : decode cX9_isHidden 30 = .ok (.if_icmp .ne 22, 3) := by decide +kernel
theorem dX9_isHidden_33 : decode cX9_isHidden 33 = .ok (.aload_n 0, 1) := by decide +kernel
theorem dX9_isHidden_34 : decode cX9_isHidden 34 = .ok (.iload_n 3, 1) := by decide +kernel
theorem dX9_isHidden_35 : decode cX9_isHidden 35 = .ok (.iconst 0, 1) := by decide +kernel
theorem dX9_isHidden_36 : decode cX9_isHidden 36 = .ok (.invokevirtual 36, 3) := by decide +kernel
theorem dX9_isHidden_39 : decode cX9_isHidden 39 = .ok (.aload_n 0, 1) := by decide +kernel
theorem dX9_isHidden_40 : decode cX9_isHidden 40 = .ok (.iload_n 1, 1) := by decide +kernel
theorem dX9_isHidden_41 : decode cX9_isHidden 41 = .ok (.iconst 0, 1) := by decide +kernel
theorem dX9_isHidden_42 : decode cX9_isHidden 42 = .ok (.invokevirtual 36, 3) := by decide +kernel
theorem dX9_isHidden_45 : decode cX9_isHidden 45 = .ok (.if_icmp .ge 7, 3) := by decide +kernel
theorem dX9_isHidden_48 : decode cX9_isHidden 48 = .ok (.iconst 1, 1) := by decide +kernel
theorem dX9_isHidden_49 : decode cX9_isHidden 49 = .ok (.goto 4, 3) := by decide +kernel
theorem dX9_isHidden_52 : decode cX9_isHidden 52 = .ok (.iconst 0, 1) := by decide +kernel
theorem dX9_isHidden_53 : decode cX9_isHidden 53 = .ok (.istore_n 2, 1) := by decide +kernel
theorem dX9_isHidden_54 : decode cX9_isHidden 54 = .ok (.iinc 3 1, 3) := by decide +kernel
theorem dX9_isHidden_57 : decode cX9_isHidden 57 = .ok (.goto (-53), 3) := by decide +kernel
theorem dX9_isHidden_60 : decode cX9_isHidden 60 = .ok (.iload_n 2, 1) := by decide +kernel
theorem dX9_isHidden_61 : decode cX9_isHidden 61 = .ok (.ireturn, 1) := by decide +kernel
theorem dX9_seenAt_0 : decode cX9_seenAt 0 = .ok (.iconst 0, 1) := by decide +kernel
theorem dX9_seenAt_1 : decode cX9_seenAt 1 = .ok (.istore_n 3, 1) := by decide +kernel
theorem dX9_seenAt_2 : decode cX9_seenAt 2 = .ok (.aload_n 0, 1) := by decide +kernel
theorem dX9_seenAt_3 : decode cX9_seenAt 3 = .ok (.iload_n 1, 1) := by decide +kernel
theorem dX9_seenAt_4 : decode cX9_seenAt 4 = .ok (.invokevirtual 40, 3) := by decide +kernel
theorem dX9_seenAt_7 : decode cX9_seenAt 7 = .ok (.ifCond .eq 7, 3) := by decide +kernel
theorem dX9_seenAt_10 : decode cX9_seenAt 10 = .ok (.iconst 0, 1) := by decide +kernel
theorem dX9_seenAt_11 : decode cX9_seenAt 11 = .ok (.goto 4, 3) := by decide +kernel
theorem dX9_seenAt_14 : decode cX9_seenAt 14 = .ok (.iconst 2, 1) := by decide +kernel
theorem dX9_seenAt_15 : decode cX9_seenAt 15 = .ok (.istore 4, 2) := by decide +kernel
theorem dX9_seenAt_17 : decode cX9_seenAt 17 = .ok (.iload 4, 2) := by decide +kernel
theorem dX9_seenAt_19 : decode cX9_seenAt 19 = .ok (.ineg, 1) := by decide +kernel
theorem dX9_seenAt_20 : decode cX9_seenAt 20 = .ok (.istore 5, 2) := by decide +kernel
theorem dX9_seenAt_22 : decode cX9_seenAt 22 = .ok (.iload 5, 2) := by decide +kernel
theorem dX9_seenAt_24 : decode cX9_seenAt 24 = .ok (.iload 4, 2) := by decide +kernel
theorem dX9_seenAt_26 : decode cX9_seenAt 26 = .ok (.if_icmp .gt 24, 3) := by decide +kernel
theorem dX9_seenAt_29 : decode cX9_seenAt 29 = .ok (.iload_n 3, 1) := by decide +kernel
theorem dX9_seenAt_30 : decode cX9_seenAt 30 = .ok (.iconst 1, 1) := by decide +kernel
theorem dX9_seenAt_31 : decode cX9_seenAt 31 = .ok (.iload_n 2, 1) := by decide +kernel
theorem dX9_seenAt_32 : decode cX9_seenAt 32 = .ok (.iload 5, 2) := by decide +kernel
theorem dX9_seenAt_34 : decode cX9_seenAt 34 = .ok (.iadd, 1) := by decide +kernel
theorem dX9_seenAt_35 : decode cX9_seenAt 35 = .ok (.bipush 12, 2) := by decide +kernel
theorem dX9_seenAt_37 : decode cX9_seenAt 37 = .ok (.iadd, 1) := by decide +kernel
theorem dX9_seenAt_38 : decode cX9_seenAt 38 = .ok (.bipush 12, 2) := by decide +kernel
theorem dX9_seenAt_40 : decode cX9_seenAt 40 = .ok (.irem, 1) := by decide +kernel
theorem dX9_seenAt_41 : decode cX9_seenAt 41 = .ok (.ishl, 1) := by decide +kernel
theorem dX9_seenAt_42 : decode cX9_seenAt 42 = .ok (.ior, 1) := by decide +kernel
theorem dX9_seenAt_43 : decode cX9_seenAt 43 = .ok (.istore_n 3, 1) := by decide +kernel
theorem dX9_seenAt_44 : decode cX9_seenAt 44 = .ok (.iinc 5 1, 3) := by decide +kernel
theorem dX9_seenAt_47 : decode cX9_seenAt 47 = .ok (.goto (-25), 3) := by decide +kernel
theorem dX9_seenAt_50 : decode cX9_seenAt 50 = .ok (.iload_n 3, 1) := by decide +kernel
theorem dX9_seenAt_51 : decode cX9_seenAt 51 = .ok (.ireturn, 1) := by decide +kernel
theorem dX9_seen_0 : decode cX9_seen 0 = .ok (.aload_n 0, 1) := by decide +kernel
theorem dX9_seen_1 : decode cX9_seen 1 = .ok (.iload_n 1, 1) := by decide +kernel
theorem dX9_seen_2 : decode cX9_seen 2 = .ok (.aload_n 0, 1) := by decide +kernel
theorem dX9_seen_3 : decode cX9_seen 3 = .ok (.iload_n 1, 1) := by decide +kernel
theorem dX9_seen_4 : decode cX9_seen 4 = .ok (.iconst 2, 1) := by decide +kernel
theorem dX9_seen_5 : decode cX9_seen 5 = .ok (.invokevirtual 36, 3) := by decide +kernel
theorem dX9_seen_8 : decode cX9_seen 8 = .ok (.invokevirtual 44, 3) := by decide +kernel
theorem dX9_seen_11 : decode cX9_seen 11 = .ok (.ireturn, 1) := by decide +kernel
theorem dX9_remembered_0 : decode cX9_remembered 0 = .ok (.iconst 0, 1) := by decide +kernel
theorem dX9_remembered_1 : decode cX9_remembered 1 = .ok (.istore_n 2, 1) := by decide +kernel
theorem dX9_remembered_2 : decode cX9_remembered 2 = .ok (.iconst 0, 1) := by decide +kernel
theorem dX9_remembered_3 : decode cX9_remembered 3 = .ok (.istore_n 3, 1) := by decide +kernel
theorem dX9_remembered_4 : decode cX9_remembered 4 = .ok (.iload_n 3, 1) := by decide +kernel
theorem dX9_remembered_5 : decode cX9_remembered 5 = .ok (.bipush 12, 2) := by decide +kernel
theorem dX9_remembered_7 : decode cX9_remembered 7 = .ok (.if_icmp .ge 54, 3) := by decide +kernel
theorem dX9_remembered_10 : decode cX9_remembered 10 = .ok (.aload_n 0, 1) := by decide +kernel
theorem dX9_remembered_11 : decode cX9_remembered 11 = .ok (.iload_n 1, 1) := by decide +kernel
theorem dX9_remembered_12 : decode cX9_remembered 12 = .ok (.bipush 6, 2) := by decide +kernel
theorem dX9_remembered_14 : decode cX9_remembered 14 = .ok (.iload_n 3, 1) := by decide +kernel
theorem dX9_remembered_15 : decode cX9_remembered 15 = .ok (.iadd, 1) := by decide +kernel
theorem dX9_remembered_16 : decode cX9_remembered 16 = .ok (.invokevirtual 36, 3) := by decide +kernel
theorem dX9_remembered_19 : decode cX9_remembered 19 = .ok (.istore 4, 2) := by decide +kernel
theorem dX9_remembered_21 : decode cX9_remembered 21 = .ok (.iload_n 2, 1) := by decide +kernel
theorem dX9_remembered_22 : decode cX9_remembered 22 = .ok (.iload 4, 2) := by decide +kernel
theorem dX9_remembered_24 : decode cX9_remembered 24 = .ok (.ifCond .lt 28, 3) := by decide +kernel
theorem dX9_remembered_27 : decode cX9_remembered 27 = .ok (.aload_n 0, 1) := by decide +kernel
theorem dX9_remembered_28 : decode cX9_remembered 28 = .ok (.getfield 7, 3) := by decide +kernel
theorem dX9_remembered_31 : decode cX9_remembered 31 = .ok (.iconst 4, 1) := by decide +kernel
theorem dX9_remembered_32 : decode cX9_remembered 32 = .ok (.iaload, 1) := by decide +kernel
theorem dX9_remembered_33 : decode cX9_remembered 33 = .ok (.iload 4, 2) := by decide +kernel
theorem dX9_remembered_35 : decode cX9_remembered 35 = .ok (.isub, 1) := by decide +kernel
theorem dX9_remembered_36 : decode cX9_remembered 36 = .ok (.aload_n 0, 1) := by decide +kernel
theorem dX9_remembered_37 : decode cX9_remembered 37 = .ok (.getfield 7, 3) := by decide +kernel
theorem dX9_remembered_40 : decode cX9_remembered 40 = .ok (.bipush 9, 2) := by decide +kernel
theorem dX9_remembered_42 : decode cX9_remembered 42 = .ok (.iaload, 1) := by decide +kernel
theorem dX9_remembered_43 : decode cX9_remembered 43 = .ok (.if_icmp .gt 9, 3) := by decide +kernel
theorem dX9_remembered_46 : decode cX9_remembered 46 = .ok (.iconst 1, 1) := by decide +kernel
theorem dX9_remembered_47 : decode cX9_remembered 47 = .ok (.iload_n 3, 1) := by decide +kernel
theorem dX9_remembered_48 : decode cX9_remembered 48 = .ok (.ishl, 1) := by decide +kernel
theorem dX9_remembered_49 : decode cX9_remembered 49 = .ok (.goto 4, 3) := by decide +kernel
theorem dX9_remembered_52 : decode cX9_remembered 52 = .ok (.iconst 0, 1) := by decide +kernel
theorem dX9_remembered_53 : decode cX9_remembered 53 = .ok (.ior, 1) := by decide +kernel
theorem dX9_remembered_54 : decode cX9_remembered 54 = .ok (.istore_n 2, 1) := by decide +kernel
theorem dX9_remembered_55 : decode cX9_remembered 55 = .ok (.iinc 3 1, 3) := by decide +kernel
theorem dX9_remembered_58 : decode cX9_remembered 58 = .ok (.goto (-54), 3) := by decide +kernel
theorem dX9_remembered_61 : decode cX9_remembered 61 = .ok (.iload_n 2, 1) := by decide +kernel
theorem dX9_remembered_62 : decode cX9_remembered 62 = .ok (.ireturn, 1) := by decide +kernel
theorem dX9_person_0 : decode cX9_person 0 = .ok (.iload_n 1, 1) := by decide +kernel
theorem dX9_person_1 : decode cX9_person 1 = .ok (.iconst 0, 1) := by decide +kernel
theorem dX9_person_2 : decode cX9_person 2 = .ok (.iconst 3, 1) := by decide +kernel
theorem dX9_person_3 : decode cX9_person 3 = .ok (.invokestatic 47, 3) := by decide +kernel
theorem dX9_person_6 : decode cX9_person 6 = .ok (.ifCond .eq 12, 3) := by decide +kernel
theorem dX9_person_9 : decode cX9_person 9 = .ok (.iload_n 2, 1) := by decide +kernel
theorem dX9_person_10 : decode cX9_person 10 = .ok (.iconst 0, 1) := by decide +kernel
theorem dX9_person_11 : decode cX9_person 11 = .ok (.iconst 5, 1) := by decide +kernel
theorem dX9_person_12 : decode cX9_person 12 = .ok (.invokestatic 47, 3) := by decide +kernel
theorem dX9_person_15 : decode cX9_person 15 = .ok (.ifCond .ne 6, 3) := by decide +kernel
theorem dX9_person_18 : decode cX9_person 18 = .ok (.ldc 51, 2) := by decide +kernel
theorem dX9_person_20 : decode cX9_person 20 = .ok (.ireturn, 1) := by decide +kernel
theorem dX9_person_21 : decode cX9_person 21 = .ok (.iconst 0, 1) := by decide +kernel
theorem dX9_person_22 : decode cX9_person 22 = .ok (.istore_n 3, 1) := by decide +kernel
theorem dX9_person_23 : decode cX9_person 23 = .ok (.iload_n 3, 1) := by decide +kernel
theorem dX9_person_24 : decode cX9_person 24 = .ok (.aload_n 0, 1) := by decide +kernel
theorem dX9_person_25 : decode cX9_person 25 = .ok (.getfield 7, 3) := by decide +kernel
theorem dX9_person_28 : decode cX9_person 28 = .ok (.iconst 0, 1) := by decide +kernel
theorem dX9_person_29 : decode cX9_person 29 = .ok (.iaload, 1) := by decide +kernel
theorem dX9_person_30 : decode cX9_person 30 = .ok (.if_icmp .ge 32, 3) := by decide +kernel
theorem dX9_person_33 : decode cX9_person 33 = .ok (.aload_n 0, 1) := by decide +kernel
theorem dX9_person_34 : decode cX9_person 34 = .ok (.iload_n 3, 1) := by decide +kernel
theorem dX9_person_35 : decode cX9_person 35 = .ok (.iconst 0, 1) := by decide +kernel
theorem dX9_person_36 : decode cX9_person 36 = .ok (.invokevirtual 36, 3) := by decide +kernel
theorem dX9_person_39 : decode cX9_person 39 = .ok (.iload_n 1, 1) := by decide +kernel
theorem dX9_person_40 : decode cX9_person 40 = .ok (.if_icmp .ne 16, 3) := by decide +kernel
theorem dX9_person_43 : decode cX9_person 43 = .ok (.aload_n 0, 1) := by decide +kernel
theorem dX9_person_44 : decode cX9_person 44 = .ok (.iload_n 3, 1) := by decide +kernel
theorem dX9_person_45 : decode cX9_person 45 = .ok (.iconst 1, 1) := by decide +kernel
theorem dX9_person_46 : decode cX9_person 46 = .ok (.invokevirtual 36, 3) := by decide +kernel
theorem dX9_person_49 : decode cX9_person 49 = .ok (.iload_n 2, 1) := by decide +kernel
theorem dX9_person_50 : decode cX9_person 50 = .ok (.if_icmp .ne 6, 3) := by decide +kernel
theorem dX9_person_53 : decode cX9_person 53 = .ok (.ldc 52, 2) := by decide +kernel
theorem dX9_person_55 : decode cX9_person 55 = .ok (.ireturn, 1) := by decide +kernel
theorem dX9_person_56 : decode cX9_person 56 = .ok (.iinc 3 1, 3) := by decide +kernel
theorem dX9_person_59 : decode cX9_person 59 = .ok (.goto (-36), 3) := by decide +kernel
theorem dX9_person_62 : decode cX9_person 62 = .ok (.aload_n 0, 1) := by decide +kernel
theorem dX9_person_63 : decode cX9_person 63 = .ok (.getfield 7, 3) := by decide +kernel
theorem dX9_person_66 : decode cX9_person 66 = .ok (.iconst 0, 1) := by decide +kernel
theorem dX9_person_67 : decode cX9_person 67 = .ok (.iaload, 1) := by decide +kernel
theorem dX9_person_68 : decode cX9_person 68 = .ok (.istore_n 3, 1) := by decide +kernel
theorem dX9_person_69 : decode cX9_person 69 = .ok (.iload_n 3, 1) := by decide +kernel
theorem dX9_person_70 : decode cX9_person 70 = .ok (.bipush 6, 2) := by decide +kernel
theorem dX9_person_72 : decode cX9_person 72 = .ok (.if_icmp .ne 6, 3) := by decide +kernel
theorem dX9_person_75 : decode cX9_person 75 = .ok (.ldc 53, 2) := by decide +kernel
theorem dX9_person_77 : decode cX9_person 77 = .ok (.ireturn, 1) := by decide +kernel
theorem dX9_person_78 : decode cX9_person 78 = .ok (.aload_n 0, 1) := by decide +kernel
theorem dX9_person_79 : decode cX9_person 79 = .ok (.invokevirtual 54, 3) := by decide +kernel
theorem dX9_person_82 : decode cX9_person 82 = .ok (.aload_n 0, 1) := by decide +kernel
theorem dX9_person_83 : decode cX9_person 83 = .ok (.iload_n 3, 1) := by decide +kernel
theorem dX9_person_84 : decode cX9_person 84 = .ok (.iconst 0, 1) := by decide +kernel
theorem dX9_person_85 : decode cX9_person 85 = .ok (.iload_n 1, 1) := by decide +kernel
theorem dX9_person_86 : decode cX9_person 86 = .ok (.invokevirtual 57, 3) := by decide +kernel
theorem dX9_person_89 : decode cX9_person 89 = .ok (.aload_n 0, 1) := by decide +kernel
theorem dX9_person_90 : decode cX9_person 90 = .ok (.iload_n 3, 1) := by decide +kernel
theorem dX9_person_91 : decode cX9_person 91 = .ok (.iconst 1, 1) := by decide +kernel
theorem dX9_person_92 : decode cX9_person 92 = .ok (.iload_n 2, 1) := by decide +kernel
theorem dX9_person_93 : decode cX9_person 93 = .ok (.invokevirtual 57, 3) := by decide +kernel
theorem dX9_person_96 : decode cX9_person 96 = .ok (.aload_n 0, 1) := by decide +kernel
theorem dX9_person_97 : decode cX9_person 97 = .ok (.iload_n 3, 1) := by decide +kernel
theorem dX9_person_98 : decode cX9_person 98 = .ok (.iconst 4, 1) := by decide +kernel
theorem dX9_person_99 : decode cX9_person 99 = .ok (.iconst (-1), 1) := by decide +kernel
theorem dX9_person_100 : decode cX9_person 100 = .ok (.invokevirtual 57, 3) := by decide +kernel
theorem dX9_person_103 : decode cX9_person 103 = .ok (.iconst 0, 1) := by decide +kernel
theorem dX9_person_104 : decode cX9_person 104 = .ok (.istore 4, 2) := by decide +kernel
theorem dX9_person_106 : decode cX9_person 106 = .ok (.iload 4, 2) := by decide +kernel
theorem dX9_person_108 : decode cX9_person 108 = .ok (.bipush 12, 2) := by decide +kernel
theorem dX9_person_110 : decode cX9_person 110 = .ok (.if_icmp .ge 20, 3) := by decide +kernel
theorem dX9_person_113 : decode cX9_person 113 = .ok (.aload_n 0, 1) := by decide +kernel
theorem dX9_person_114 : decode cX9_person 114 = .ok (.iload_n 3, 1) := by decide +kernel
theorem dX9_person_115 : decode cX9_person 115 = .ok (.bipush 6, 2) := by decide +kernel
theorem dX9_person_117 : decode cX9_person 117 = .ok (.iload 4, 2) := by decide +kernel
theorem dX9_person_119 : decode cX9_person 119 = .ok (.iadd, 1) := by decide +kernel
theorem dX9_person_120 : decode cX9_person 120 = .ok (.iconst (-1), 1) := by decide +kernel
theorem dX9_person_121 : decode cX9_person 121 = .ok (.invokevirtual 57, 3) := by decide +kernel
theorem dX9_person_124 : decode cX9_person 124 = .ok (.iinc 4 1, 3) := by decide +kernel
theorem dX9_person_127 : decode cX9_person 127 = .ok (.goto (-21), 3) := by decide +kernel
theorem dX9_person_130 : decode cX9_person 130 = .ok (.aload_n 0, 1) := by decide +kernel
theorem dX9_person_131 : decode cX9_person 131 = .ok (.getfield 7, 3) := by decide +kernel
theorem dX9_person_134 : decode cX9_person 134 = .ok (.iconst 0, 1) := by decide +kernel
theorem dX9_person_135 : decode cX9_person 135 = .ok (.dup2, 1) := by decide +kernel
theorem dX9_person_136 : decode cX9_person 136 = .ok (.iaload, 1) := by decide +kernel
theorem dX9_person_137 : decode cX9_person 137 = .ok (.iconst 1, 1) := by decide +kernel
theorem dX9_person_138 : decode cX9_person 138 = .ok (.iadd, 1) := by decide +kernel
theorem dX9_person_139 : decode cX9_person 139 = .ok (.iastore, 1) := by decide +kernel
theorem dX9_person_140 : decode cX9_person 140 = .ok (.iload_n 3, 1) := by decide +kernel
theorem dX9_person_141 : decode cX9_person 141 = .ok (.ireturn, 1) := by decide +kernel
theorem dX9_turn_0 : decode cX9_turn 0 = .ok (.aload_n 0, 1) := by decide +kernel
theorem dX9_turn_1 : decode cX9_turn 1 = .ok (.iload_n 1, 1) := by decide +kernel
theorem dX9_turn_2 : decode cX9_turn 2 = .ok (.invokevirtual 61, 3) := by decide +kernel
theorem dX9_turn_5 : decode cX9_turn 5 = .ok (.ifCond .eq 23, 3) := by decide +kernel
theorem dX9_turn_8 : decode cX9_turn 8 = .ok (.iload_n 2, 1) := by decide +kernel
theorem dX9_turn_9 : decode cX9_turn 9 = .ok (.iconst 0, 1) := by decide +kernel
theorem dX9_turn_10 : decode cX9_turn 10 = .ok (.bipush 11, 2) := by decide +kernel
theorem dX9_turn_12 : decode cX9_turn 12 = .ok (.invokestatic 47, 3) := by decide +kernel
theorem dX9_turn_15 : decode cX9_turn 15 = .ok (.ifCond .eq 13, 3) := by decide +kernel
theorem dX9_turn_18 : decode cX9_turn 18 = .ok (.iload_n 3, 1) := by decide +kernel
theorem dX9_turn_19 : decode cX9_turn 19 = .ok (.iconst 0, 1) := by decide +kernel
theorem dX9_turn_20 : decode cX9_turn 20 = .ok (.bipush 11, 2) := by decide +kernel
theorem dX9_turn_22 : decode cX9_turn 22 = .ok (.invokestatic 47, 3) := by decide +kernel
theorem dX9_turn_25 : decode cX9_turn 25 = .ok (.ifCond .ne 6, 3) := by decide +kernel
theorem dX9_turn_28 : decode cX9_turn 28 = .ok (.ldc 51, 2) := by decide +kernel
theorem dX9_turn_30 : decode cX9_turn 30 = .ok (.ireturn, 1) := by decide +kernel
theorem dX9_turn_31 : decode cX9_turn 31 = .ok (.aload_n 0, 1) := by decide +kernel
theorem dX9_turn_32 : decode cX9_turn 32 = .ok (.invokevirtual 54, 3) := by decide +kernel
theorem dX9_turn_35 : decode cX9_turn 35 = .ok (.aload_n 0, 1) := by decide +kernel
theorem dX9_turn_36 : decode cX9_turn 36 = .ok (.iload_n 1, 1) := by decide +kernel
theorem dX9_turn_37 : decode cX9_turn 37 = .ok (.iconst 2, 1) := by decide +kernel
theorem dX9_turn_38 : decode cX9_turn 38 = .ok (.iload_n 2, 1) := by decide +kernel
theorem dX9_turn_39 : decode cX9_turn 39 = .ok (.invokevirtual 57, 3) := by decide +kernel
theorem dX9_turn_42 : decode cX9_turn 42 = .ok (.aload_n 0, 1) := by decide +kernel
theorem dX9_turn_43 : decode cX9_turn 43 = .ok (.iload_n 1, 1) := by decide +kernel
theorem dX9_turn_44 : decode cX9_turn 44 = .ok (.iconst 3, 1) := by decide +kernel
theorem dX9_turn_45 : decode cX9_turn 45 = .ok (.iload_n 3, 1) := by decide +kernel
theorem dX9_turn_46 : decode cX9_turn 46 = .ok (.invokevirtual 57, 3) := by decide +kernel
theorem dX9_turn_49 : decode cX9_turn 49 = .ok (.aload_n 0, 1) := by decide +kernel
theorem dX9_turn_50 : decode cX9_turn 50 = .ok (.iload_n 1, 1) := by decide +kernel
theorem dX9_turn_51 : decode cX9_turn 51 = .ok (.invokevirtual 64, 3) := by decide +kernel
theorem dX9_turn_54 : decode cX9_turn 54 = .ok (.ireturn, 1) := by decide +kernel
theorem dX9_paper_0 : decode cX9_paper 0 = .ok (.iload_n 1, 1) := by decide +kernel
theorem dX9_paper_1 : decode cX9_paper 1 = .ok (.iconst 1, 1) := by decide +kernel
theorem dX9_paper_2 : decode cX9_paper 2 = .ok (.bipush 20, 2) := by decide +kernel
theorem dX9_paper_4 : decode cX9_paper 4 = .ok (.invokestatic 47, 3) := by decide +kernel
theorem dX9_paper_7 : decode cX9_paper 7 = .ok (.ifCond .eq 14, 3) := by decide +kernel
theorem dX9_paper_10 : decode cX9_paper 10 = .ok (.iload_n 2, 1) := by decide +kernel
theorem dX9_paper_11 : decode cX9_paper 11 = .ok (.iconst 1, 1) := by decide +kernel
theorem dX9_paper_12 : decode cX9_paper 12 = .ok (.sipush 299, 3) := by decide +kernel
theorem dX9_paper_15 : decode cX9_paper 15 = .ok (.invokestatic 47, 3) := by decide +kernel
theorem dX9_paper_18 : decode cX9_paper 18 = .ok (.ifCond .ne 6, 3) := by decide +kernel
theorem dX9_paper_21 : decode cX9_paper 21 = .ok (.ldc 51, 2) := by decide +kernel
theorem dX9_paper_23 : decode cX9_paper 23 = .ok (.ireturn, 1) := by decide +kernel
theorem dX9_paper_24 : decode cX9_paper 24 = .ok (.aload_n 0, 1) := by decide +kernel
theorem dX9_paper_25 : decode cX9_paper 25 = .ok (.getfield 7, 3) := by decide +kernel
theorem dX9_paper_28 : decode cX9_paper 28 = .ok (.iconst 1, 1) := by decide +kernel
theorem dX9_paper_29 : decode cX9_paper 29 = .ok (.iaload, 1) := by decide +kernel
theorem dX9_paper_30 : decode cX9_paper 30 = .ok (.istore_n 3, 1) := by decide +kernel
theorem dX9_paper_31 : decode cX9_paper 31 = .ok (.iload_n 3, 1) := by decide +kernel
theorem dX9_paper_32 : decode cX9_paper 32 = .ok (.iconst 4, 1) := by decide +kernel
theorem dX9_paper_33 : decode cX9_paper 33 = .ok (.if_icmp .ne 6, 3) := by decide +kernel
theorem dX9_paper_36 : decode cX9_paper 36 = .ok (.ldc 53, 2) := by decide +kernel
theorem dX9_paper_38 : decode cX9_paper 38 = .ok (.ireturn, 1) := by decide +kernel
theorem dX9_paper_39 : decode cX9_paper 39 = .ok (.aload_n 0, 1) := by decide +kernel
theorem dX9_paper_40 : decode cX9_paper 40 = .ok (.invokevirtual 54, 3) := by decide +kernel
theorem dX9_paper_43 : decode cX9_paper 43 = .ok (.aload_n 0, 1) := by decide +kernel
theorem dX9_paper_44 : decode cX9_paper 44 = .ok (.getfield 7, 3) := by decide +kernel
theorem dX9_paper_47 : decode cX9_paper 47 = .ok (.sipush 159, 3) := by decide +kernel
theorem dX9_paper_50 : decode cX9_paper 50 = .ok (.bipush 6, 2) := by decide +kernel
theorem dX9_paper_52 : decode cX9_paper 52 = .ok (.iload_n 3, 1) := by decide +kernel
theorem dX9_paper_53 : decode cX9_paper 53 = .ok (.imul, 1) := by decide +kernel
theorem dX9_paper_54 : decode cX9_paper 54 = .ok (.iadd, 1) := by decide +kernel
theorem dX9_paper_55 : decode cX9_paper 55 = .ok (.iconst 0, 1) := by decide +kernel
theorem dX9_paper_56 : decode cX9_paper 56 = .ok (.iadd, 1) := by decide +kernel
theorem dX9_paper_57 : decode cX9_paper 57 = .ok (.iload_n 1, 1) := by decide +kernel
theorem dX9_paper_58 : decode cX9_paper 58 = .ok (.iastore, 1) := by decide +kernel
theorem dX9_paper_59 : decode cX9_paper 59 = .ok (.aload_n 0, 1) := by decide +kernel
theorem dX9_paper_60 : decode cX9_paper 60 = .ok (.getfield 7, 3) := by decide +kernel
theorem dX9_paper_63 : decode cX9_paper 63 = .ok (.sipush 159, 3) := by decide +kernel
theorem dX9_paper_66 : decode cX9_paper 66 = .ok (.bipush 6, 2) := by decide +kernel
theorem dX9_paper_68 : decode cX9_paper 68 = .ok (.iload_n 3, 1) := by decide +kernel
theorem dX9_paper_69 : decode cX9_paper 69 = .ok (.imul, 1) := by decide +kernel
theorem dX9_paper_70 : decode cX9_paper 70 = .ok (.iadd, 1) := by decide +kernel
theorem dX9_paper_71 : decode cX9_paper 71 = .ok (.iconst 1, 1) := by decide +kernel
theorem dX9_paper_72 : decode cX9_paper 72 = .ok (.iadd, 1) := by decide +kernel
theorem dX9_paper_73 : decode cX9_paper 73 = .ok (.iload_n 2, 1) := by decide +kernel
theorem dX9_paper_74 : decode cX9_paper 74 = .ok (.iastore, 1) := by decide +kernel
theorem dX9_paper_75 : decode cX9_paper 75 = .ok (.aload_n 0, 1) := by decide +kernel
theorem dX9_paper_76 : decode cX9_paper 76 = .ok (.getfield 7, 3) := by decide +kernel
theorem dX9_paper_79 : decode cX9_paper 79 = .ok (.sipush 159, 3) := by decide +kernel
theorem dX9_paper_82 : decode cX9_paper 82 = .ok (.bipush 6, 2) := by decide +kernel
theorem dX9_paper_84 : decode cX9_paper 84 = .ok (.iload_n 3, 1) := by decide +kernel
theorem dX9_paper_85 : decode cX9_paper 85 = .ok (.imul, 1) := by decide +kernel
theorem dX9_paper_86 : decode cX9_paper 86 = .ok (.iadd, 1) := by decide +kernel
theorem dX9_paper_87 : decode cX9_paper 87 = .ok (.iconst 4, 1) := by decide +kernel
theorem dX9_paper_88 : decode cX9_paper 88 = .ok (.iadd, 1) := by decide +kernel
theorem dX9_paper_89 : decode cX9_paper 89 = .ok (.iconst (-1), 1) := by decide +kernel
theorem dX9_paper_90 : decode cX9_paper 90 = .ok (.iastore, 1) := by decide +kernel
theorem dX9_paper_91 : decode cX9_paper 91 = .ok (.aload_n 0, 1) := by decide +kernel
theorem dX9_paper_92 : decode cX9_paper 92 = .ok (.getfield 7, 3) := by decide +kernel
theorem dX9_paper_95 : decode cX9_paper 95 = .ok (.iconst 1, 1) := by decide +kernel
theorem dX9_paper_96 : decode cX9_paper 96 = .ok (.dup2, 1) := by decide +kernel
theorem dX9_paper_97 : decode cX9_paper 97 = .ok (.iaload, 1) := by decide +kernel
theorem dX9_paper_98 : decode cX9_paper 98 = .ok (.iconst 1, 1) := by decide +kernel
theorem dX9_paper_99 : decode cX9_paper 99 = .ok (.iadd, 1) := by decide +kernel
theorem dX9_paper_100 : decode cX9_paper 100 = .ok (.iastore, 1) := by decide +kernel
theorem dX9_paper_101 : decode cX9_paper 101 = .ok (.iload_n 3, 1) := by decide +kernel
theorem dX9_paper_102 : decode cX9_paper 102 = .ok (.ireturn, 1) := by decide +kernel
theorem dX9_look_0 : decode cX9_look 0 = .ok (.iload_n 1, 1) := by decide +kernel
theorem dX9_look_1 : decode cX9_look 1 = .ok (.iconst (-1), 1) := by decide +kernel
theorem dX9_look_2 : decode cX9_look 2 = .ok (.if_icmp .eq 14, 3) := by decide +kernel
theorem dX9_look_5 : decode cX9_look 5 = .ok (.aload_n 0, 1) := by decide +kernel
theorem dX9_look_6 : decode cX9_look 6 = .ok (.iload_n 1, 1) := by decide +kernel
theorem dX9_look_7 : decode cX9_look 7 = .ok (.invokevirtual 61, 3) := by decide +kernel
theorem dX9_look_10 : decode cX9_look 10 = .ok (.ifCond .ne 6, 3) := by decide +kernel
theorem dX9_look_13 : decode cX9_look 13 = .ok (.ldc 51, 2) := by decide +kernel
theorem dX9_look_15 : decode cX9_look 15 = .ok (.ireturn, 1) := by decide +kernel
theorem dX9_look_16 : decode cX9_look 16 = .ok (.aload_n 0, 1) := by decide +kernel
theorem dX9_look_17 : decode cX9_look 17 = .ok (.invokevirtual 54, 3) := by decide +kernel
theorem dX9_look_20 : decode cX9_look 20 = .ok (.aload_n 0, 1) := by decide +kernel
theorem dX9_look_21 : decode cX9_look 21 = .ok (.getfield 7, 3) := by decide +kernel
theorem dX9_look_24 : decode cX9_look 24 = .ok (.iconst 5, 1) := by decide +kernel
theorem dX9_look_25 : decode cX9_look 25 = .ok (.iload_n 1, 1) := by decide +kernel
theorem dX9_look_26 : decode cX9_look 26 = .ok (.iastore, 1) := by decide +kernel
theorem dX9_look_27 : decode cX9_look 27 = .ok (.iload_n 1, 1) := by decide +kernel
theorem dX9_look_28 : decode cX9_look 28 = .ok (.iconst (-1), 1) := by decide +kernel
theorem dX9_look_29 : decode cX9_look 29 = .ok (.if_icmp .ne 7, 3) := by decide +kernel
theorem dX9_look_32 : decode cX9_look 32 = .ok (.iconst 0, 1) := by decide +kernel
theorem dX9_look_33 : decode cX9_look 33 = .ok (.goto 8, 3) := by decide +kernel
theorem dX9_look_36 : decode cX9_look 36 = .ok (.aload_n 0, 1) := by decide +kernel
theorem dX9_look_37 : decode cX9_look 37 = .ok (.iload_n 1, 1) := by decide +kernel
theorem dX9_look_38 : decode cX9_look 38 = .ok (.invokevirtual 64, 3) := by decide +kernel
theorem dX9_look_41 : decode cX9_look 41 = .ok (.ireturn, 1) := by decide +kernel
theorem dX9_slot_0 : decode cX9_slot 0 = .ok (.iconst 0, 1) := by decide +kernel
theorem dX9_slot_1 : decode cX9_slot 1 = .ok (.istore_n 2, 1) := by decide +kernel
theorem dX9_slot_2 : decode cX9_slot 2 = .ok (.iload_n 2, 1) := by decide +kernel
theorem dX9_slot_3 : decode cX9_slot 3 = .ok (.aload_n 0, 1) := by decide +kernel
theorem dX9_slot_4 : decode cX9_slot 4 = .ok (.getfield 7, 3) := by decide +kernel
theorem dX9_slot_7 : decode cX9_slot 7 = .ok (.iconst 2, 1) := by decide +kernel
theorem dX9_slot_8 : decode cX9_slot 8 = .ok (.iaload, 1) := by decide +kernel
theorem dX9_slot_9 : decode cX9_slot 9 = .ok (.if_icmp .ge 21, 3) := by decide +kernel
theorem dX9_slot_12 : decode cX9_slot 12 = .ok (.aload_n 0, 1) := by decide +kernel
theorem dX9_slot_13 : decode cX9_slot 13 = .ok (.iload_n 2, 1) := by decide +kernel
theorem dX9_slot_14 : decode cX9_slot 14 = .ok (.iconst 0, 1) := by decide +kernel
theorem dX9_slot_15 : decode cX9_slot 15 = .ok (.invokevirtual 68, 3) := by decide +kernel
theorem dX9_slot_18 : decode cX9_slot 18 = .ok (.iload_n 1, 1) := by decide +kernel
theorem dX9_slot_19 : decode cX9_slot 19 = .ok (.if_icmp .ne 5, 3) := by decide +kernel
theorem dX9_slot_22 : decode cX9_slot 22 = .ok (.iload_n 2, 1) := by decide +kernel
theorem dX9_slot_23 : decode cX9_slot 23 = .ok (.ireturn, 1) := by decide +kernel
theorem dX9_slot_24 : decode cX9_slot 24 = .ok (.iinc 2 1, 3) := by decide +kernel
theorem dX9_slot_27 : decode cX9_slot 27 = .ok (.goto (-25), 3) := by decide +kernel
theorem dX9_slot_30 : decode cX9_slot 30 = .ok (.ldc 71, 2) := by decide +kernel
theorem dX9_slot_32 : decode cX9_slot 32 = .ok (.ireturn, 1) := by decide +kernel
theorem dX9_sheet_0 : decode cX9_sheet 0 = .ok (.aload_n 0, 1) := by decide +kernel
theorem dX9_sheet_1 : decode cX9_sheet 1 = .ok (.iload_n 1, 1) := by decide +kernel
theorem dX9_sheet_2 : decode cX9_sheet 2 = .ok (.invokevirtual 61, 3) := by decide +kernel
theorem dX9_sheet_5 : decode cX9_sheet 5 = .ok (.ifCond .ne 6, 3) := by decide +kernel
theorem dX9_sheet_8 : decode cX9_sheet 8 = .ok (.ldc 51, 2) := by decide +kernel
theorem dX9_sheet_10 : decode cX9_sheet 10 = .ok (.ireturn, 1) := by decide +kernel
theorem dX9_sheet_11 : decode cX9_sheet 11 = .ok (.aload_n 0, 1) := by decide +kernel
theorem dX9_sheet_12 : decode cX9_sheet 12 = .ok (.getfield 7, 3) := by decide +kernel
theorem dX9_sheet_15 : decode cX9_sheet 15 = .ok (.iconst 2, 1) := by decide +kernel
theorem dX9_sheet_16 : decode cX9_sheet 16 = .ok (.iaload, 1) := by decide +kernel
theorem dX9_sheet_17 : decode cX9_sheet 17 = .ok (.istore_n 2, 1) := by decide +kernel
theorem dX9_sheet_18 : decode cX9_sheet 18 = .ok (.iload_n 2, 1) := by decide +kernel
theorem dX9_sheet_19 : decode cX9_sheet 19 = .ok (.bipush 10, 2) := by decide +kernel
theorem dX9_sheet_21 : decode cX9_sheet 21 = .ok (.if_icmp .ne 6, 3) := by decide +kernel
theorem dX9_sheet_24 : decode cX9_sheet 24 = .ok (.ldc 53, 2) := by decide +kernel
theorem dX9_sheet_26 : decode cX9_sheet 26 = .ok (.ireturn, 1) := by decide +kernel
theorem dX9_sheet_27 : decode cX9_sheet 27 = .ok (.aload_n 0, 1) := by decide +kernel
theorem dX9_sheet_28 : decode cX9_sheet 28 = .ok (.invokevirtual 54, 3) := by decide +kernel
theorem dX9_sheet_31 : decode cX9_sheet 31 = .ok (.aload_n 0, 1) := by decide +kernel
theorem dX9_sheet_32 : decode cX9_sheet 32 = .ok (.getfield 7, 3) := by decide +kernel
theorem dX9_sheet_35 : decode cX9_sheet 35 = .ok (.bipush 119, 2) := by decide +kernel
theorem dX9_sheet_37 : decode cX9_sheet 37 = .ok (.iconst 4, 1) := by decide +kernel
theorem dX9_sheet_38 : decode cX9_sheet 38 = .ok (.iload_n 2, 1) := by decide +kernel
theorem dX9_sheet_39 : decode cX9_sheet 39 = .ok (.imul, 1) := by decide +kernel
theorem dX9_sheet_40 : decode cX9_sheet 40 = .ok (.iadd, 1) := by decide +kernel
theorem dX9_sheet_41 : decode cX9_sheet 41 = .ok (.iconst 0, 1) := by decide +kernel
theorem dX9_sheet_42 : decode cX9_sheet 42 = .ok (.iadd, 1) := by decide +kernel
theorem dX9_sheet_43 : decode cX9_sheet 43 = .ok (.aload_n 0, 1) := by decide +kernel
theorem dX9_sheet_44 : decode cX9_sheet 44 = .ok (.getfield 7, 3) := by decide +kernel
theorem dX9_sheet_47 : decode cX9_sheet 47 = .ok (.iconst 3, 1) := by decide +kernel
theorem dX9_sheet_48 : decode cX9_sheet 48 = .ok (.iaload, 1) := by decide +kernel
theorem dX9_sheet_49 : decode cX9_sheet 49 = .ok (.iastore, 1) := by decide +kernel
theorem dX9_sheet_50 : decode cX9_sheet 50 = .ok (.aload_n 0, 1) := by decide +kernel
theorem dX9_sheet_51 : decode cX9_sheet 51 = .ok (.getfield 7, 3) := by decide +kernel
theorem dX9_sheet_54 : decode cX9_sheet 54 = .ok (.bipush 119, 2) := by decide +kernel
theorem dX9_sheet_56 : decode cX9_sheet 56 = .ok (.iconst 4, 1) := by decide +kernel
theorem dX9_sheet_57 : decode cX9_sheet 57 = .ok (.iload_n 2, 1) := by decide +kernel
theorem dX9_sheet_58 : decode cX9_sheet 58 = .ok (.imul, 1) := by decide +kernel
theorem dX9_sheet_59 : decode cX9_sheet 59 = .ok (.iadd, 1) := by decide +kernel
theorem dX9_sheet_60 : decode cX9_sheet 60 = .ok (.iconst 1, 1) := by decide +kernel
theorem dX9_sheet_61 : decode cX9_sheet 61 = .ok (.iadd, 1) := by decide +kernel
theorem dX9_sheet_62 : decode cX9_sheet 62 = .ok (.iload_n 1, 1) := by decide +kernel
theorem dX9_sheet_63 : decode cX9_sheet 63 = .ok (.iastore, 1) := by decide +kernel
theorem dX9_sheet_64 : decode cX9_sheet 64 = .ok (.aload_n 0, 1) := by decide +kernel
theorem dX9_sheet_65 : decode cX9_sheet 65 = .ok (.getfield 7, 3) := by decide +kernel
theorem dX9_sheet_68 : decode cX9_sheet 68 = .ok (.bipush 119, 2) := by decide +kernel
theorem dX9_sheet_70 : decode cX9_sheet 70 = .ok (.iconst 4, 1) := by decide +kernel
theorem dX9_sheet_71 : decode cX9_sheet 71 = .ok (.iload_n 2, 1) := by decide +kernel
theorem dX9_sheet_72 : decode cX9_sheet 72 = .ok (.imul, 1) := by decide +kernel
theorem dX9_sheet_73 : decode cX9_sheet 73 = .ok (.iadd, 1) := by decide +kernel
theorem dX9_sheet_74 : decode cX9_sheet 74 = .ok (.iconst 2, 1) := by decide +kernel
theorem dX9_sheet_75 : decode cX9_sheet 75 = .ok (.iadd, 1) := by decide +kernel
theorem dX9_sheet_76 : decode cX9_sheet 76 = .ok (.iconst 0, 1) := by decide +kernel
theorem dX9_sheet_77 : decode cX9_sheet 77 = .ok (.iastore, 1) := by decide +kernel
theorem dX9_sheet_78 : decode cX9_sheet 78 = .ok (.aload_n 0, 1) := by decide +kernel
theorem dX9_sheet_79 : decode cX9_sheet 79 = .ok (.getfield 7, 3) := by decide +kernel
theorem dX9_sheet_82 : decode cX9_sheet 82 = .ok (.bipush 119, 2) := by decide +kernel
theorem dX9_sheet_84 : decode cX9_sheet 84 = .ok (.iconst 4, 1) := by decide +kernel
theorem dX9_sheet_85 : decode cX9_sheet 85 = .ok (.iload_n 2, 1) := by decide +kernel
theorem dX9_sheet_86 : decode cX9_sheet 86 = .ok (.imul, 1) := by decide +kernel
theorem dX9_sheet_87 : decode cX9_sheet 87 = .ok (.iadd, 1) := by decide +kernel
theorem dX9_sheet_88 : decode cX9_sheet 88 = .ok (.iconst 3, 1) := by decide +kernel
theorem dX9_sheet_89 : decode cX9_sheet 89 = .ok (.iadd, 1) := by decide +kernel
theorem dX9_sheet_90 : decode cX9_sheet 90 = .ok (.iconst 0, 1) := by decide +kernel
theorem dX9_sheet_91 : decode cX9_sheet 91 = .ok (.iastore, 1) := by decide +kernel
theorem dX9_sheet_92 : decode cX9_sheet 92 = .ok (.aload_n 0, 1) := by decide +kernel
theorem dX9_sheet_93 : decode cX9_sheet 93 = .ok (.getfield 7, 3) := by decide +kernel
theorem dX9_sheet_96 : decode cX9_sheet 96 = .ok (.iconst 2, 1) := by decide +kernel
theorem dX9_sheet_97 : decode cX9_sheet 97 = .ok (.dup2, 1) := by decide +kernel
theorem dX9_sheet_98 : decode cX9_sheet 98 = .ok (.iaload, 1) := by decide +kernel
theorem dX9_sheet_99 : decode cX9_sheet 99 = .ok (.iconst 1, 1) := by decide +kernel
theorem dX9_sheet_100 : decode cX9_sheet 100 = .ok (.iadd, 1) := by decide +kernel
theorem dX9_sheet_101 : decode cX9_sheet 101 = .ok (.iastore, 1) := by decide +kernel
theorem dX9_sheet_102 : decode cX9_sheet 102 = .ok (.aload_n 0, 1) := by decide +kernel
theorem dX9_sheet_103 : decode cX9_sheet 103 = .ok (.getfield 7, 3) := by decide +kernel
theorem dX9_sheet_106 : decode cX9_sheet 106 = .ok (.iconst 3, 1) := by decide +kernel
theorem dX9_sheet_107 : decode cX9_sheet 107 = .ok (.dup2, 1) := by decide +kernel
theorem dX9_sheet_108 : decode cX9_sheet 108 = .ok (.iaload, 1) := by decide +kernel
theorem dX9_sheet_109 : decode cX9_sheet 109 = .ok (.iconst 1, 1) := by decide +kernel
theorem dX9_sheet_110 : decode cX9_sheet 110 = .ok (.iadd, 1) := by decide +kernel
theorem dX9_sheet_111 : decode cX9_sheet 111 = .ok (.iastore, 1) := by decide +kernel
theorem dX9_sheet_112 : decode cX9_sheet 112 = .ok (.aload_n 0, 1) := by decide +kernel
theorem dX9_sheet_113 : decode cX9_sheet 113 = .ok (.getfield 7, 3) := by decide +kernel
theorem dX9_sheet_116 : decode cX9_sheet 116 = .ok (.iconst 3, 1) := by decide +kernel
theorem dX9_sheet_117 : decode cX9_sheet 117 = .ok (.iaload, 1) := by decide +kernel
theorem dX9_sheet_118 : decode cX9_sheet 118 = .ok (.iconst 1, 1) := by decide +kernel
theorem dX9_sheet_119 : decode cX9_sheet 119 = .ok (.isub, 1) := by decide +kernel
theorem dX9_sheet_120 : decode cX9_sheet 120 = .ok (.ireturn, 1) := by decide +kernel
theorem dX9_drawable_0 : decode cX9_drawable 0 = .ok (.aload_n 0, 1) := by decide +kernel
theorem dX9_drawable_1 : decode cX9_drawable 1 = .ok (.aload_n 0, 1) := by decide +kernel
theorem dX9_drawable_2 : decode cX9_drawable 2 = .ok (.iload_n 1, 1) := by decide +kernel
theorem dX9_drawable_3 : decode cX9_drawable 3 = .ok (.iconst 1, 1) := by decide +kernel
theorem dX9_drawable_4 : decode cX9_drawable 4 = .ok (.invokevirtual 68, 3) := by decide +kernel
theorem dX9_drawable_7 : decode cX9_drawable 7 = .ok (.invokevirtual 72, 3) := by decide +kernel
theorem dX9_drawable_10 : decode cX9_drawable 10 = .ok (.aload_n 0, 1) := by decide +kernel
theorem dX9_drawable_11 : decode cX9_drawable 11 = .ok (.iload_n 1, 1) := by decide +kernel
theorem dX9_drawable_12 : decode cX9_drawable 12 = .ok (.iconst 2, 1) := by decide +kernel
theorem dX9_drawable_13 : decode cX9_drawable 13 = .ok (.invokevirtual 68, 3) := by decide +kernel
theorem dX9_drawable_16 : decode cX9_drawable 16 = .ok (.iconst (-1), 1) := by decide +kernel
theorem dX9_drawable_17 : decode cX9_drawable 17 = .ok (.ixor, 1) := by decide +kernel
theorem dX9_drawable_18 : decode cX9_drawable 18 = .ok (.iand, 1) := by decide +kernel
theorem dX9_drawable_19 : decode cX9_drawable 19 = .ok (.ireturn, 1) := by decide +kernel
theorem dX9_draw_0 : decode cX9_draw 0 = .ok (.aload_n 0, 1) := by decide +kernel
theorem dX9_draw_1 : decode cX9_draw 1 = .ok (.iload_n 1, 1) := by decide +kernel
theorem dX9_draw_2 : decode cX9_draw 2 = .ok (.invokevirtual 75, 3) := by decide +kernel
theorem dX9_draw_5 : decode cX9_draw 5 = .ok (.istore_n 3, 1) := by decide +kernel
theorem dX9_draw_6 : decode cX9_draw 6 = .ok (.iload_n 3, 1) := by decide +kernel
theorem dX9_draw_7 : decode cX9_draw 7 = .ok (.ifCond .lt 13, 3) := by decide +kernel
theorem dX9_draw_10 : decode cX9_draw 10 = .ok (.iload_n 2, 1) := by decide +kernel
theorem dX9_draw_11 : decode cX9_draw 11 = .ok (.iconst 0, 1) := by decide +kernel
theorem dX9_draw_12 : decode cX9_draw 12 = .ok (.bipush 11, 2) := by decide +kernel
theorem dX9_draw_14 : decode cX9_draw 14 = .ok (.invokestatic 47, 3) := by decide +kernel
theorem dX9_draw_17 : decode cX9_draw 17 = .ok (.ifCond .ne 6, 3) := by decide +kernel
theorem dX9_draw_20 : decode cX9_draw 20 = .ok (.ldc 51, 2) := by decide +kernel
theorem dX9_draw_22 : decode cX9_draw 22 = .ok (.ireturn, 1) := by decide +kernel
theorem dX9_draw_23 : decode cX9_draw 23 = .ok (.aload_n 0, 1) := by decide +kernel
theorem dX9_draw_24 : decode cX9_draw 24 = .ok (.iload_n 3, 1) := by decide +kernel
theorem dX9_draw_25 : decode cX9_draw 25 = .ok (.invokevirtual 78, 3) := by decide +kernel
theorem dX9_draw_28 : decode cX9_draw 28 = .ok (.iconst 1, 1) := by decide +kernel
theorem dX9_draw_29 : decode cX9_draw 29 = .ok (.iload_n 2, 1) := by decide +kernel
theorem dX9_draw_30 : decode cX9_draw 30 = .ok (.ishl, 1) := by decide +kernel
theorem dX9_draw_31 : decode cX9_draw 31 = .ok (.iand, 1) := by decide +kernel
theorem dX9_draw_32 : decode cX9_draw 32 = .ok (.ifCond .ne 6, 3) := by decide +kernel
theorem dX9_draw_35 : decode cX9_draw 35 = .ok (.ldc 52, 2) := by decide +kernel
theorem dX9_draw_37 : decode cX9_draw 37 = .ok (.ireturn, 1) := by decide +kernel
theorem dX9_draw_38 : decode cX9_draw 38 = .ok (.aload_n 0, 1) := by decide +kernel
theorem dX9_draw_39 : decode cX9_draw 39 = .ok (.getfield 7, 3) := by decide +kernel
theorem dX9_draw_42 : decode cX9_draw 42 = .ok (.bipush 6, 2) := by decide +kernel
theorem dX9_draw_44 : decode cX9_draw 44 = .ok (.iaload, 1) := by decide +kernel
theorem dX9_draw_45 : decode cX9_draw 45 = .ok (.iconst 3, 1) := by decide +kernel
theorem dX9_draw_46 : decode cX9_draw 46 = .ok (.if_icmp .ne 6, 3) := by decide +kernel
theorem dX9_draw_49 : decode cX9_draw 49 = .ok (.ldc 53, 2) := by decide +kernel
theorem dX9_draw_51 : decode cX9_draw 51 = .ok (.ireturn, 1) := by decide +kernel
theorem dX9_draw_52 : decode cX9_draw 52 = .ok (.aload_n 0, 1) := by decide +kernel
theorem dX9_draw_53 : decode cX9_draw 53 = .ok (.invokevirtual 54, 3) := by decide +kernel
theorem dX9_draw_56 : decode cX9_draw 56 = .ok (.aload_n 0, 1) := by decide +kernel
theorem dX9_draw_57 : decode cX9_draw 57 = .ok (.getfield 7, 3) := by decide +kernel
theorem dX9_draw_60 : decode cX9_draw 60 = .ok (.iconst 4, 1) := by decide +kernel
theorem dX9_draw_61 : decode cX9_draw 61 = .ok (.iaload, 1) := by decide +kernel
theorem dX9_draw_62 : decode cX9_draw 62 = .ok (.aload_n 0, 1) := by decide +kernel
theorem dX9_draw_63 : decode cX9_draw 63 = .ok (.getfield 7, 3) := by decide +kernel
theorem dX9_draw_66 : decode cX9_draw 66 = .ok (.bipush 10, 2) := by decide +kernel
theorem dX9_draw_68 : decode cX9_draw 68 = .ok (.iaload, 1) := by decide +kernel
theorem dX9_draw_69 : decode cX9_draw 69 = .ok (.iadd, 1) := by decide +kernel
theorem dX9_draw_70 : decode cX9_draw 70 = .ok (.istore 4, 2) := by decide +kernel
theorem dX9_draw_72 : decode cX9_draw 72 = .ok (.aload_n 0, 1) := by decide +kernel
theorem dX9_draw_73 : decode cX9_draw 73 = .ok (.getfield 7, 3) := by decide +kernel
theorem dX9_draw_76 : decode cX9_draw 76 = .ok (.bipush 119, 2) := by decide +kernel
theorem dX9_draw_78 : decode cX9_draw 78 = .ok (.iconst 4, 1) := by decide +kernel
theorem dX9_draw_79 : decode cX9_draw 79 = .ok (.iload_n 3, 1) := by decide +kernel
theorem dX9_draw_80 : decode cX9_draw 80 = .ok (.imul, 1) := by decide +kernel
theorem dX9_draw_81 : decode cX9_draw 81 = .ok (.iadd, 1) := by decide +kernel
theorem dX9_draw_82 : decode cX9_draw 82 = .ok (.iconst 2, 1) := by decide +kernel
theorem dX9_draw_83 : decode cX9_draw 83 = .ok (.iadd, 1) := by decide +kernel
theorem dX9_draw_84 : decode cX9_draw 84 = .ok (.dup2, 1) := by decide +kernel
theorem dX9_draw_85 : decode cX9_draw 85 = .ok (.iaload, 1) := by decide +kernel
theorem dX9_draw_86 : decode cX9_draw 86 = .ok (.iconst 1, 1) := by decide +kernel
theorem dX9_draw_87 : decode cX9_draw 87 = .ok (.iload_n 2, 1) := by decide +kernel
theorem dX9_draw_88 : decode cX9_draw 88 = .ok (.ishl, 1) := by decide +kernel
theorem dX9_draw_89 : decode cX9_draw 89 = .ok (.ior, 1) := by decide +kernel
theorem dX9_draw_90 : decode cX9_draw 90 = .ok (.iastore, 1) := by decide +kernel
theorem dX9_draw_91 : decode cX9_draw 91 = .ok (.aload_n 0, 1) := by decide +kernel
theorem dX9_draw_92 : decode cX9_draw 92 = .ok (.getfield 7, 3) := by decide +kernel
theorem dX9_draw_95 : decode cX9_draw 95 = .ok (.bipush 119, 2) := by decide +kernel
theorem dX9_draw_97 : decode cX9_draw 97 = .ok (.iconst 4, 1) := by decide +kernel
theorem dX9_draw_98 : decode cX9_draw 98 = .ok (.iload_n 3, 1) := by decide +kernel
theorem dX9_draw_99 : decode cX9_draw 99 = .ok (.imul, 1) := by decide +kernel
theorem dX9_draw_100 : decode cX9_draw 100 = .ok (.iadd, 1) := by decide +kernel
theorem dX9_draw_101 : decode cX9_draw 101 = .ok (.iconst 3, 1) := by decide +kernel
theorem dX9_draw_102 : decode cX9_draw 102 = .ok (.iadd, 1) := by decide +kernel
theorem dX9_draw_103 : decode cX9_draw 103 = .ok (.iload 4, 2) := by decide +kernel
theorem dX9_draw_105 : decode cX9_draw 105 = .ok (.aload_n 0, 1) := by decide +kernel
theorem dX9_draw_106 : decode cX9_draw 106 = .ok (.iload_n 3, 1) := by decide +kernel
theorem dX9_draw_107 : decode cX9_draw 107 = .ok (.iconst 3, 1) := by decide +kernel
theorem dX9_draw_108 : decode cX9_draw 108 = .ok (.invokevirtual 68, 3) := by decide +kernel
theorem dX9_draw_111 : decode cX9_draw 111 = .ok (.if_icmp .le 8, 3) := by decide +kernel
theorem dX9_draw_114 : decode cX9_draw 114 = .ok (.iload 4, 2) := by decide +kernel
theorem dX9_draw_116 : decode cX9_draw 116 = .ok (.goto 9, 3) := by decide +kernel
theorem dX9_draw_119 : decode cX9_draw 119 = .ok (.aload_n 0, 1) := by decide +kernel
theorem dX9_draw_120 : decode cX9_draw 120 = .ok (.iload_n 3, 1) := by decide +kernel
theorem dX9_draw_121 : decode cX9_draw 121 = .ok (.iconst 3, 1) := by decide +kernel
theorem dX9_draw_122 : decode cX9_draw 122 = .ok (.invokevirtual 68, 3) := by decide +kernel
theorem dX9_draw_125 : decode cX9_draw 125 = .ok (.iastore, 1) := by decide +kernel
theorem dX9_draw_126 : decode cX9_draw 126 = .ok (.aload_n 0, 1) := by decide +kernel
theorem dX9_draw_127 : decode cX9_draw 127 = .ok (.getfield 7, 3) := by decide +kernel
theorem dX9_draw_130 : decode cX9_draw 130 = .ok (.bipush 6, 2) := by decide +kernel
theorem dX9_draw_132 : decode cX9_draw 132 = .ok (.dup2, 1) := by decide +kernel
theorem dX9_draw_133 : decode cX9_draw 133 = .ok (.iaload, 1) := by decide +kernel
theorem dX9_draw_134 : decode cX9_draw 134 = .ok (.iconst 1, 1) := by decide +kernel
theorem dX9_draw_135 : decode cX9_draw 135 = .ok (.iadd, 1) := by decide +kernel
theorem dX9_draw_136 : decode cX9_draw 136 = .ok (.iastore, 1) := by decide +kernel
theorem dX9_draw_137 : decode cX9_draw 137 = .ok (.aload_n 0, 1) := by decide +kernel
theorem dX9_draw_138 : decode cX9_draw 138 = .ok (.iload_n 3, 1) := by decide +kernel
theorem dX9_draw_139 : decode cX9_draw 139 = .ok (.iconst 2, 1) := by decide +kernel
theorem dX9_draw_140 : decode cX9_draw 140 = .ok (.invokevirtual 68, 3) := by decide +kernel
theorem dX9_draw_143 : decode cX9_draw 143 = .ok (.invokestatic 81, 3) := by decide +kernel
theorem dX9_draw_146 : decode cX9_draw 146 = .ok (.ireturn, 1) := by decide +kernel
theorem dX9_takesOut_0 : decode cX9_takesOut 0 = .ok (.aload_n 0, 1) := by decide +kernel
theorem dX9_takesOut_1 : decode cX9_takesOut 1 = .ok (.getfield 7, 3) := by decide +kernel
theorem dX9_takesOut_4 : decode cX9_takesOut 4 = .ok (.iconst 2, 1) := by decide +kernel
theorem dX9_takesOut_5 : decode cX9_takesOut 5 = .ok (.dup2, 1) := by decide +kernel
theorem dX9_takesOut_6 : decode cX9_takesOut 6 = .ok (.iaload, 1) := by decide +kernel
theorem dX9_takesOut_7 : decode cX9_takesOut 7 = .ok (.iconst 1, 1) := by decide +kernel
theorem dX9_takesOut_8 : decode cX9_takesOut 8 = .ok (.isub, 1) := by decide +kernel
theorem dX9_takesOut_9 : decode cX9_takesOut 9 = .ok (.iastore, 1) := by decide +kernel
theorem dX9_takesOut_10 : decode cX9_takesOut 10 = .ok (.bipush 119, 2) := by decide +kernel
theorem dX9_takesOut_12 : decode cX9_takesOut 12 = .ok (.iconst 4, 1) := by decide +kernel
theorem dX9_takesOut_13 : decode cX9_takesOut 13 = .ok (.iload_n 1, 1) := by decide +kernel
theorem dX9_takesOut_14 : decode cX9_takesOut 14 = .ok (.imul, 1) := by decide +kernel
theorem dX9_takesOut_15 : decode cX9_takesOut 15 = .ok (.iadd, 1) := by decide +kernel
theorem dX9_takesOut_16 : decode cX9_takesOut 16 = .ok (.istore_n 2, 1) := by decide +kernel
theorem dX9_takesOut_17 : decode cX9_takesOut 17 = .ok (.iload_n 2, 1) := by decide +kernel
theorem dX9_takesOut_18 : decode cX9_takesOut 18 = .ok (.bipush 119, 2) := by decide +kernel
theorem dX9_takesOut_20 : decode cX9_takesOut 20 = .ok (.iconst 4, 1) := by decide +kernel
theorem dX9_takesOut_21 : decode cX9_takesOut 21 = .ok (.aload_n 0, 1) := by decide +kernel
theorem dX9_takesOut_22 : decode cX9_takesOut 22 = .ok (.getfield 7, 3) := by decide +kernel
theorem dX9_takesOut_25 : decode cX9_takesOut 25 = .ok (.iconst 2, 1) := by decide +kernel
theorem dX9_takesOut_26 : decode cX9_takesOut 26 = .ok (.iaload, 1) := by decide +kernel
theorem dX9_takesOut_27 : decode cX9_takesOut 27 = .ok (.imul, 1) := by decide +kernel
theorem dX9_takesOut_28 : decode cX9_takesOut 28 = .ok (.iadd, 1) := by decide +kernel
theorem dX9_takesOut_29 : decode cX9_takesOut 29 = .ok (.if_icmp .ge 23, 3) := by decide +kernel
theorem dX9_takesOut_32 : decode cX9_takesOut 32 = .ok (.aload_n 0, 1) := by decide +kernel
theorem dX9_takesOut_33 : decode cX9_takesOut 33 = .ok (.getfield 7, 3) := by decide +kernel
theorem dX9_takesOut_36 : decode cX9_takesOut 36 = .ok (.iload_n 2, 1) := by decide +kernel
theorem dX9_takesOut_37 : decode cX9_takesOut 37 = .ok (.aload_n 0, 1) := by decide +kernel
theorem dX9_takesOut_38 : decode cX9_takesOut 38 = .ok (.getfield 7, 3) := by decide +kernel
theorem dX9_takesOut_41 : decode cX9_takesOut 41 = .ok (.iload_n 2, 1) := by decide +kernel
theorem dX9_takesOut_42 : decode cX9_takesOut 42 = .ok (.iconst 4, 1) := by decide +kernel
theorem dX9_takesOut_43 : decode cX9_takesOut 43 = .ok (.iadd, 1) := by decide +kernel
theorem dX9_takesOut_44 : decode cX9_takesOut 44 = .ok (.iaload, 1) := by decide +kernel
theorem dX9_takesOut_45 : decode cX9_takesOut 45 = .ok (.iastore, 1) := by decide +kernel
theorem dX9_takesOut_46 : decode cX9_takesOut 46 = .ok (.iinc 2 1, 3) := by decide +kernel
theorem dX9_takesOut_49 : decode cX9_takesOut 49 = .ok (.goto (-32), 3) := by decide +kernel
theorem dX9_takesOut_52 : decode cX9_takesOut 52 = .ok (.return_, 1) := by decide +kernel
theorem dX9_tear_0 : decode cX9_tear 0 = .ok (.aload_n 0, 1) := by decide +kernel
theorem dX9_tear_1 : decode cX9_tear 1 = .ok (.iload_n 1, 1) := by decide +kernel
theorem dX9_tear_2 : decode cX9_tear 2 = .ok (.invokevirtual 75, 3) := by decide +kernel
theorem dX9_tear_5 : decode cX9_tear 5 = .ok (.istore_n 2, 1) := by decide +kernel
theorem dX9_tear_6 : decode cX9_tear 6 = .ok (.iload_n 2, 1) := by decide +kernel
theorem dX9_tear_7 : decode cX9_tear 7 = .ok (.ifCond .ge 6, 3) := by decide +kernel
theorem dX9_tear_10 : decode cX9_tear 10 = .ok (.ldc 51, 2) := by decide +kernel
theorem dX9_tear_12 : decode cX9_tear 12 = .ok (.ireturn, 1) := by decide +kernel
theorem dX9_tear_13 : decode cX9_tear 13 = .ok (.aload_n 0, 1) := by decide +kernel
theorem dX9_tear_14 : decode cX9_tear 14 = .ok (.invokevirtual 54, 3) := by decide +kernel
theorem dX9_tear_17 : decode cX9_tear 17 = .ok (.aload_n 0, 1) := by decide +kernel
theorem dX9_tear_18 : decode cX9_tear 18 = .ok (.iload_n 2, 1) := by decide +kernel
theorem dX9_tear_19 : decode cX9_tear 19 = .ok (.invokevirtual 84, 3) := by decide +kernel
theorem dX9_tear_22 : decode cX9_tear 22 = .ok (.aload_n 0, 1) := by decide +kernel
theorem dX9_tear_23 : decode cX9_tear 23 = .ok (.getfield 7, 3) := by decide +kernel
theorem dX9_tear_26 : decode cX9_tear 26 = .ok (.iconst 2, 1) := by decide +kernel
theorem dX9_tear_27 : decode cX9_tear 27 = .ok (.iaload, 1) := by decide +kernel
theorem dX9_tear_28 : decode cX9_tear 28 = .ok (.ireturn, 1) := by decide +kernel
theorem dX9_sheetsOf_0 : decode cX9_sheetsOf 0 = .ok (.iconst 0, 1) := by decide +kernel
theorem dX9_sheetsOf_1 : decode cX9_sheetsOf 1 = .ok (.istore_n 2, 1) := by decide +kernel
theorem dX9_sheetsOf_2 : decode cX9_sheetsOf 2 = .ok (.iconst 0, 1) := by decide +kernel
theorem dX9_sheetsOf_3 : decode cX9_sheetsOf 3 = .ok (.istore_n 3, 1) := by decide +kernel
theorem dX9_sheetsOf_4 : decode cX9_sheetsOf 4 = .ok (.iload_n 3, 1) := by decide +kernel
theorem dX9_sheetsOf_5 : decode cX9_sheetsOf 5 = .ok (.aload_n 0, 1) := by decide +kernel
theorem dX9_sheetsOf_6 : decode cX9_sheetsOf 6 = .ok (.getfield 7, 3) := by decide +kernel
theorem dX9_sheetsOf_9 : decode cX9_sheetsOf 9 = .ok (.iconst 2, 1) := by decide +kernel
theorem dX9_sheetsOf_10 : decode cX9_sheetsOf 10 = .ok (.iaload, 1) := by decide +kernel
theorem dX9_sheetsOf_11 : decode cX9_sheetsOf 11 = .ok (.if_icmp .ge 27, 3) := by decide +kernel
theorem dX9_sheetsOf_14 : decode cX9_sheetsOf 14 = .ok (.iload_n 2, 1) := by decide +kernel
theorem dX9_sheetsOf_15 : decode cX9_sheetsOf 15 = .ok (.aload_n 0, 1) := by decide +kernel
theorem dX9_sheetsOf_16 : decode cX9_sheetsOf 16 = .ok (.iload_n 3, 1) := by decide +kernel
theorem dX9_sheetsOf_17 : decode cX9_sheetsOf 17 = .ok (.iconst 1, 1) := by decide +kernel
theorem dX9_sheetsOf_18 : decode cX9_sheetsOf 18 = .ok (.invokevirtual 68, 3) := by decide +kernel
theorem dX9_sheetsOf_21 : decode cX9_sheetsOf 21 = .ok (.iload_n 1, 1) := by decide +kernel
theorem dX9_sheetsOf_22 : decode cX9_sheetsOf 22 = .ok (.if_icmp .ne 7, 3) := by decide +kernel
theorem dX9_sheetsOf_25 : decode cX9_sheetsOf 25 = .ok (.iconst 1, 1) := by decide +kernel
theorem dX9_sheetsOf_26 : decode cX9_sheetsOf 26 = .ok (.goto 4, 3) := by decide +kernel
theorem dX9_sheetsOf_29 : decode cX9_sheetsOf 29 = .ok (.iconst 0, 1) := by decide +kernel
theorem dX9_sheetsOf_30 : decode cX9_sheetsOf 30 = .ok (.iadd, 1) := by decide +kernel
theorem dX9_sheetsOf_31 : decode cX9_sheetsOf 31 = .ok (.istore_n 2, 1) := by decide +kernel
theorem dX9_sheetsOf_32 : decode cX9_sheetsOf 32 = .ok (.iinc 3 1, 3) := by decide +kernel
theorem dX9_sheetsOf_35 : decode cX9_sheetsOf 35 = .ok (.goto (-31), 3) := by decide +kernel
theorem dX9_sheetsOf_38 : decode cX9_sheetsOf 38 = .ok (.iload_n 2, 1) := by decide +kernel
theorem dX9_sheetsOf_39 : decode cX9_sheetsOf 39 = .ok (.ireturn, 1) := by decide +kernel
theorem dX9_hasVerdict_0 : decode cX9_hasVerdict 0 = .ok (.aload_n 0, 1) := by decide +kernel
theorem dX9_hasVerdict_1 : decode cX9_hasVerdict 1 = .ok (.iload_n 1, 1) := by decide +kernel
theorem dX9_hasVerdict_2 : decode cX9_hasVerdict 2 = .ok (.iconst 4, 1) := by decide +kernel
theorem dX9_hasVerdict_3 : decode cX9_hasVerdict 3 = .ok (.invokevirtual 36, 3) := by decide +kernel
theorem dX9_hasVerdict_6 : decode cX9_hasVerdict 6 = .ok (.aload_n 0, 1) := by decide +kernel
theorem dX9_hasVerdict_7 : decode cX9_hasVerdict 7 = .ok (.invokevirtual 88, 3) := by decide +kernel
theorem dX9_hasVerdict_10 : decode cX9_hasVerdict 10 = .ok (.if_icmp .ne 7, 3) := by decide +kernel
theorem dX9_hasVerdict_13 : decode cX9_hasVerdict 13 = .ok (.iconst 1, 1) := by decide +kernel
theorem dX9_hasVerdict_14 : decode cX9_hasVerdict 14 = .ok (.goto 4, 3) := by decide +kernel
theorem dX9_hasVerdict_17 : decode cX9_hasVerdict 17 = .ok (.iconst 0, 1) := by decide +kernel
theorem dX9_hasVerdict_18 : decode cX9_hasVerdict 18 = .ok (.ireturn, 1) := by decide +kernel
theorem dX9_verdict_0 : decode cX9_verdict 0 = .ok (.aload_n 0, 1) := by decide +kernel
theorem dX9_verdict_1 : decode cX9_verdict 1 = .ok (.iload_n 1, 1) := by decide +kernel
theorem dX9_verdict_2 : decode cX9_verdict 2 = .ok (.invokevirtual 61, 3) := by decide +kernel
theorem dX9_verdict_5 : decode cX9_verdict 5 = .ok (.ifCond .ne 6, 3) := by decide +kernel
theorem dX9_verdict_8 : decode cX9_verdict 8 = .ok (.ldc 51, 2) := by decide +kernel
theorem dX9_verdict_10 : decode cX9_verdict 10 = .ok (.ireturn, 1) := by decide +kernel
theorem dX9_verdict_11 : decode cX9_verdict 11 = .ok (.aload_n 0, 1) := by decide +kernel
theorem dX9_verdict_12 : decode cX9_verdict 12 = .ok (.iload_n 1, 1) := by decide +kernel
theorem dX9_verdict_13 : decode cX9_verdict 13 = .ok (.invokevirtual 92, 3) := by decide +kernel
theorem dX9_verdict_16 : decode cX9_verdict 16 = .ok (.ifCond .eq 6, 3) := by decide +kernel
theorem dX9_verdict_19 : decode cX9_verdict 19 = .ok (.ldc 52, 2) := by decide +kernel
theorem dX9_verdict_21 : decode cX9_verdict 21 = .ok (.ireturn, 1) := by decide +kernel
theorem dX9_verdict_22 : decode cX9_verdict 22 = .ok (.aload_n 0, 1) := by decide +kernel
theorem dX9_verdict_23 : decode cX9_verdict 23 = .ok (.invokevirtual 54, 3) := by decide +kernel
theorem dX9_verdict_26 : decode cX9_verdict 26 = .ok (.aload_n 0, 1) := by decide +kernel
theorem dX9_verdict_27 : decode cX9_verdict 27 = .ok (.iload_n 1, 1) := by decide +kernel
theorem dX9_verdict_28 : decode cX9_verdict 28 = .ok (.iconst 4, 1) := by decide +kernel
theorem dX9_verdict_29 : decode cX9_verdict 29 = .ok (.aload_n 0, 1) := by decide +kernel
theorem dX9_verdict_30 : decode cX9_verdict 30 = .ok (.invokevirtual 88, 3) := by decide +kernel
theorem dX9_verdict_33 : decode cX9_verdict 33 = .ok (.invokevirtual 57, 3) := by decide +kernel
theorem dX9_verdict_36 : decode cX9_verdict 36 = .ok (.aload_n 0, 1) := by decide +kernel
theorem dX9_verdict_37 : decode cX9_verdict 37 = .ok (.iload_n 1, 1) := by decide +kernel
theorem dX9_verdict_38 : decode cX9_verdict 38 = .ok (.invokevirtual 95, 3) := by decide +kernel
theorem dX9_verdict_41 : decode cX9_verdict 41 = .ok (.ireturn, 1) := by decide +kernel
theorem dX9_isDry_0 : decode cX9_isDry 0 = .ok (.aload_n 0, 1) := by decide +kernel
theorem dX9_isDry_1 : decode cX9_isDry 1 = .ok (.iload_n 1, 1) := by decide +kernel
theorem dX9_isDry_2 : decode cX9_isDry 2 = .ok (.iconst 2, 1) := by decide +kernel
theorem dX9_isDry_3 : decode cX9_isDry 3 = .ok (.invokevirtual 68, 3) := by decide +kernel
theorem dX9_isDry_6 : decode cX9_isDry 6 = .ok (.ifCond .eq 22, 3) := by decide +kernel
theorem dX9_isDry_9 : decode cX9_isDry 9 = .ok (.aload_n 0, 1) := by decide +kernel
theorem dX9_isDry_10 : decode cX9_isDry 10 = .ok (.iload_n 1, 1) := by decide +kernel
theorem dX9_isDry_11 : decode cX9_isDry 11 = .ok (.iconst 3, 1) := by decide +kernel
theorem dX9_isDry_12 : decode cX9_isDry 12 = .ok (.invokevirtual 68, 3) := by decide +kernel
theorem dX9_isDry_15 : decode cX9_isDry 15 = .ok (.aload_n 0, 1) := by decide +kernel
theorem dX9_isDry_16 : decode cX9_isDry 16 = .ok (.getfield 7, 3) := by decide +kernel
theorem dX9_isDry_19 : decode cX9_isDry 19 = .ok (.iconst 4, 1) := by decide +kernel
theorem dX9_isDry_20 : decode cX9_isDry 20 = .ok (.iaload, 1) := by decide +kernel
theorem dX9_isDry_21 : decode cX9_isDry 21 = .ok (.if_icmp .gt 7, 3) := by decide +kernel
theorem dX9_isDry_24 : decode cX9_isDry 24 = .ok (.iconst 1, 1) := by decide +kernel
theorem dX9_isDry_25 : decode cX9_isDry 25 = .ok (.goto 4, 3) := by decide +kernel
theorem dX9_isDry_28 : decode cX9_isDry 28 = .ok (.iconst 0, 1) := by decide +kernel
theorem dX9_isDry_29 : decode cX9_isDry 29 = .ok (.ireturn, 1) := by decide +kernel
theorem dX9_boughtOf_0 : decode cX9_boughtOf 0 = .ok (.aload_n 0, 1) := by decide +kernel
theorem dX9_boughtOf_1 : decode cX9_boughtOf 1 = .ok (.iload_n 1, 1) := by decide +kernel
theorem dX9_boughtOf_2 : decode cX9_boughtOf 2 = .ok (.iconst 4, 1) := by decide +kernel
theorem dX9_boughtOf_3 : decode cX9_boughtOf 3 = .ok (.invokevirtual 98, 3) := by decide +kernel
theorem dX9_boughtOf_6 : decode cX9_boughtOf 6 = .ok (.aload_n 0, 1) := by decide +kernel
theorem dX9_boughtOf_7 : decode cX9_boughtOf 7 = .ok (.invokevirtual 88, 3) := by decide +kernel
theorem dX9_boughtOf_10 : decode cX9_boughtOf 10 = .ok (.if_icmp .ne 12, 3) := by decide +kernel
theorem dX9_boughtOf_13 : decode cX9_boughtOf 13 = .ok (.aload_n 0, 1) := by decide +kernel
theorem dX9_boughtOf_14 : decode cX9_boughtOf 14 = .ok (.iload_n 1, 1) := by decide +kernel
theorem dX9_boughtOf_15 : decode cX9_boughtOf 15 = .ok (.iconst 5, 1) := by decide +kernel
theorem dX9_boughtOf_16 : decode cX9_boughtOf 16 = .ok (.invokevirtual 98, 3) := by decide +kernel
theorem dX9_boughtOf_19 : decode cX9_boughtOf 19 = .ok (.goto 4, 3) := by decide +kernel
theorem dX9_boughtOf_22 : decode cX9_boughtOf 22 = .ok (.iconst 0, 1) := by decide +kernel
theorem dX9_boughtOf_23 : decode cX9_boughtOf 23 = .ok (.ireturn, 1) := by decide +kernel
theorem dX9_canSell_0 : decode cX9_canSell 0 = .ok (.aload_n 0, 1) := by decide +kernel
theorem dX9_canSell_1 : decode cX9_canSell 1 = .ok (.iload_n 1, 1) := by decide +kernel
theorem dX9_canSell_2 : decode cX9_canSell 2 = .ok (.invokevirtual 101, 3) := by decide +kernel
theorem dX9_canSell_5 : decode cX9_canSell 5 = .ok (.ifCond .eq 24, 3) := by decide +kernel
theorem dX9_canSell_8 : decode cX9_canSell 8 = .ok (.aload_n 0, 1) := by decide +kernel
theorem dX9_canSell_9 : decode cX9_canSell 9 = .ok (.iload_n 2, 1) := by decide +kernel
theorem dX9_canSell_10 : decode cX9_canSell 10 = .ok (.invokevirtual 104, 3) := by decide +kernel
theorem dX9_canSell_13 : decode cX9_canSell 13 = .ok (.aload_n 0, 1) := by decide +kernel
theorem dX9_canSell_14 : decode cX9_canSell 14 = .ok (.iload_n 1, 1) := by decide +kernel
theorem dX9_canSell_15 : decode cX9_canSell 15 = .ok (.iconst 1, 1) := by decide +kernel
theorem dX9_canSell_16 : decode cX9_canSell 16 = .ok (.invokevirtual 68, 3) := by decide +kernel
theorem dX9_canSell_19 : decode cX9_canSell 19 = .ok (.ishr, 1) := by decide +kernel
theorem dX9_canSell_20 : decode cX9_canSell 20 = .ok (.iconst 1, 1) := by decide +kernel
theorem dX9_canSell_21 : decode cX9_canSell 21 = .ok (.iand, 1) := by decide +kernel
theorem dX9_canSell_22 : decode cX9_canSell 22 = .ok (.ifCond .ne 7, 3) := by decide +kernel
theorem dX9_canSell_25 : decode cX9_canSell 25 = .ok (.iconst 1, 1) := by decide +kernel
theorem dX9_canSell_26 : decode cX9_canSell 26 = .ok (.goto 4, 3) := by decide +kernel
theorem dX9_canSell_29 : decode cX9_canSell 29 = .ok (.iconst 0, 1) := by decide +kernel
theorem dX9_canSell_30 : decode cX9_canSell 30 = .ok (.ireturn, 1) := by decide +kernel
theorem dX9_priceOf_0 : decode cX9_priceOf 0 = .ok (.aload_n 0, 1) := by decide +kernel
theorem dX9_priceOf_1 : decode cX9_priceOf 1 = .ok (.iload_n 2, 1) := by decide +kernel
theorem dX9_priceOf_2 : decode cX9_priceOf 2 = .ok (.iconst 0, 1) := by decide +kernel
theorem dX9_priceOf_3 : decode cX9_priceOf 3 = .ok (.invokevirtual 98, 3) := by decide +kernel
theorem dX9_priceOf_6 : decode cX9_priceOf 6 = .ok (.aload_n 0, 1) := by decide +kernel
theorem dX9_priceOf_7 : decode cX9_priceOf 7 = .ok (.iload_n 1, 1) := by decide +kernel
theorem dX9_priceOf_8 : decode cX9_priceOf 8 = .ok (.iconst 2, 1) := by decide +kernel
theorem dX9_priceOf_9 : decode cX9_priceOf 9 = .ok (.invokevirtual 68, 3) := by decide +kernel
theorem dX9_priceOf_12 : decode cX9_priceOf 12 = .ok (.invokestatic 81, 3) := by decide +kernel
theorem dX9_priceOf_15 : decode cX9_priceOf 15 = .ok (.imul, 1) := by decide +kernel
theorem dX9_priceOf_16 : decode cX9_priceOf 16 = .ok (.istore_n 3, 1) := by decide +kernel
theorem dX9_priceOf_17 : decode cX9_priceOf 17 = .ok (.aload_n 0, 1) := by decide +kernel
theorem dX9_priceOf_18 : decode cX9_priceOf 18 = .ok (.aload_n 0, 1) := by decide +kernel
theorem dX9_priceOf_19 : decode cX9_priceOf 19 = .ok (.iload_n 1, 1) := by decide +kernel
theorem dX9_priceOf_20 : decode cX9_priceOf 20 = .ok (.iconst 1, 1) := by decide +kernel
theorem dX9_priceOf_21 : decode cX9_priceOf 21 = .ok (.invokevirtual 68, 3) := by decide +kernel
theorem dX9_priceOf_24 : decode cX9_priceOf 24 = .ok (.invokevirtual 92, 3) := by decide +kernel
theorem dX9_priceOf_27 : decode cX9_priceOf 27 = .ok (.ifCond .eq 9, 3) := by decide +kernel
theorem dX9_priceOf_30 : decode cX9_priceOf 30 = .ok (.iconst 2, 1) := by decide +kernel
theorem dX9_priceOf_31 : decode cX9_priceOf 31 = .ok (.iload_n 3, 1) := by decide +kernel
theorem dX9_priceOf_32 : decode cX9_priceOf 32 = .ok (.imul, 1) := by decide +kernel
theorem dX9_priceOf_33 : decode cX9_priceOf 33 = .ok (.goto 4, 3) := by decide +kernel
theorem dX9_priceOf_36 : decode cX9_priceOf 36 = .ok (.iload_n 3, 1) := by decide +kernel
theorem dX9_priceOf_37 : decode cX9_priceOf 37 = .ok (.istore_n 3, 1) := by decide +kernel
theorem dX9_priceOf_38 : decode cX9_priceOf 38 = .ok (.aload_n 0, 1) := by decide +kernel
theorem dX9_priceOf_39 : decode cX9_priceOf 39 = .ok (.getfield 7, 3) := by decide +kernel
theorem dX9_priceOf_42 : decode cX9_priceOf 42 = .ok (.iconst 4, 1) := by decide +kernel
theorem dX9_priceOf_43 : decode cX9_priceOf 43 = .ok (.iaload, 1) := by decide +kernel
theorem dX9_priceOf_44 : decode cX9_priceOf 44 = .ok (.sipush 300, 3) := by decide +kernel
theorem dX9_priceOf_47 : decode cX9_priceOf 47 = .ok (.irem, 1) := by decide +kernel
theorem dX9_priceOf_48 : decode cX9_priceOf 48 = .ok (.aload_n 0, 1) := by decide +kernel
theorem dX9_priceOf_49 : decode cX9_priceOf 49 = .ok (.iload_n 2, 1) := by decide +kernel
theorem dX9_priceOf_50 : decode cX9_priceOf 50 = .ok (.iconst 1, 1) := by decide +kernel
theorem dX9_priceOf_51 : decode cX9_priceOf 51 = .ok (.invokevirtual 98, 3) := by decide +kernel
theorem dX9_priceOf_54 : decode cX9_priceOf 54 = .ok (.if_icmp .le 9, 3) := by decide +kernel
theorem dX9_priceOf_57 : decode cX9_priceOf 57 = .ok (.iload_n 3, 1) := by decide +kernel
theorem dX9_priceOf_58 : decode cX9_priceOf 58 = .ok (.iconst 2, 1) := by decide +kernel
theorem dX9_priceOf_59 : decode cX9_priceOf 59 = .ok (.idiv, 1) := by decide +kernel
theorem dX9_priceOf_60 : decode cX9_priceOf 60 = .ok (.goto 4, 3) := by decide +kernel
theorem dX9_priceOf_63 : decode cX9_priceOf 63 = .ok (.iload_n 3, 1) := by decide +kernel
theorem dX9_priceOf_64 : decode cX9_priceOf 64 = .ok (.ireturn, 1) := by decide +kernel
theorem dX9_sells_0 : decode cX9_sells 0 = .ok (.aload_n 0, 1) := by decide +kernel
theorem dX9_sells_1 : decode cX9_sells 1 = .ok (.iload_n 1, 1) := by decide +kernel
theorem dX9_sells_2 : decode cX9_sells 2 = .ok (.iload_n 2, 1) := by decide +kernel
theorem dX9_sells_3 : decode cX9_sells 3 = .ok (.invokevirtual 107, 3) := by decide +kernel
theorem dX9_sells_6 : decode cX9_sells 6 = .ok (.istore_n 3, 1) := by decide +kernel
theorem dX9_sells_7 : decode cX9_sells 7 = .ok (.aload_n 0, 1) := by decide +kernel
theorem dX9_sells_8 : decode cX9_sells 8 = .ok (.iload_n 1, 1) := by decide +kernel
theorem dX9_sells_9 : decode cX9_sells 9 = .ok (.iconst 1, 1) := by decide +kernel
theorem dX9_sells_10 : decode cX9_sells 10 = .ok (.invokevirtual 68, 3) := by decide +kernel
theorem dX9_sells_13 : decode cX9_sells 13 = .ok (.istore 4, 2) := by decide +kernel
theorem dX9_sells_15 : decode cX9_sells 15 = .ok (.aload_n 0, 1) := by decide +kernel
theorem dX9_sells_16 : decode cX9_sells 16 = .ok (.getfield 7, 3) := by decide +kernel
theorem dX9_sells_19 : decode cX9_sells 19 = .ok (.sipush 159, 3) := by decide +kernel
theorem dX9_sells_22 : decode cX9_sells 22 = .ok (.bipush 6, 2) := by decide +kernel
theorem dX9_sells_24 : decode cX9_sells 24 = .ok (.iload_n 2, 1) := by decide +kernel
theorem dX9_sells_25 : decode cX9_sells 25 = .ok (.imul, 1) := by decide +kernel
theorem dX9_sells_26 : decode cX9_sells 26 = .ok (.iadd, 1) := by decide +kernel
theorem dX9_sells_27 : decode cX9_sells 27 = .ok (.iconst 5, 1) := by decide +kernel
theorem dX9_sells_28 : decode cX9_sells 28 = .ok (.iadd, 1) := by decide +kernel
theorem dX9_sells_29 : decode cX9_sells 29 = .ok (.aload_n 0, 1) := by decide +kernel
theorem dX9_sells_30 : decode cX9_sells 30 = .ok (.iload_n 2, 1) := by decide +kernel
theorem dX9_sells_31 : decode cX9_sells 31 = .ok (.invokevirtual 104, 3) := by decide +kernel
theorem dX9_sells_34 : decode cX9_sells 34 = .ok (.iconst 1, 1) := by decide +kernel
theorem dX9_sells_35 : decode cX9_sells 35 = .ok (.iload 4, 2) := by decide +kernel
theorem dX9_sells_37 : decode cX9_sells 37 = .ok (.ishl, 1) := by decide +kernel
theorem dX9_sells_38 : decode cX9_sells 38 = .ok (.ior, 1) := by decide +kernel
theorem dX9_sells_39 : decode cX9_sells 39 = .ok (.iastore, 1) := by decide +kernel
theorem dX9_sells_40 : decode cX9_sells 40 = .ok (.aload_n 0, 1) := by decide +kernel
theorem dX9_sells_41 : decode cX9_sells 41 = .ok (.getfield 7, 3) := by decide +kernel
theorem dX9_sells_44 : decode cX9_sells 44 = .ok (.sipush 159, 3) := by decide +kernel
theorem dX9_sells_47 : decode cX9_sells 47 = .ok (.bipush 6, 2) := by decide +kernel
theorem dX9_sells_49 : decode cX9_sells 49 = .ok (.iload_n 2, 1) := by decide +kernel
theorem dX9_sells_50 : decode cX9_sells 50 = .ok (.imul, 1) := by decide +kernel
theorem dX9_sells_51 : decode cX9_sells 51 = .ok (.iadd, 1) := by decide +kernel
theorem dX9_sells_52 : decode cX9_sells 52 = .ok (.iconst 4, 1) := by decide +kernel
theorem dX9_sells_53 : decode cX9_sells 53 = .ok (.iadd, 1) := by decide +kernel
theorem dX9_sells_54 : decode cX9_sells 54 = .ok (.aload_n 0, 1) := by decide +kernel
theorem dX9_sells_55 : decode cX9_sells 55 = .ok (.invokevirtual 88, 3) := by decide +kernel
theorem dX9_sells_58 : decode cX9_sells 58 = .ok (.iastore, 1) := by decide +kernel
theorem dX9_sells_59 : decode cX9_sells 59 = .ok (.aload_n 0, 1) := by decide +kernel
theorem dX9_sells_60 : decode cX9_sells 60 = .ok (.getfield 7, 3) := by decide +kernel
theorem dX9_sells_63 : decode cX9_sells 63 = .ok (.sipush 159, 3) := by decide +kernel
theorem dX9_sells_66 : decode cX9_sells 66 = .ok (.bipush 6, 2) := by decide +kernel
theorem dX9_sells_68 : decode cX9_sells 68 = .ok (.iload_n 2, 1) := by decide +kernel
theorem dX9_sells_69 : decode cX9_sells 69 = .ok (.imul, 1) := by decide +kernel
theorem dX9_sells_70 : decode cX9_sells 70 = .ok (.iadd, 1) := by decide +kernel
theorem dX9_sells_71 : decode cX9_sells 71 = .ok (.iconst 2, 1) := by decide +kernel
theorem dX9_sells_72 : decode cX9_sells 72 = .ok (.iadd, 1) := by decide +kernel
theorem dX9_sells_73 : decode cX9_sells 73 = .ok (.dup2, 1) := by decide +kernel
theorem dX9_sells_74 : decode cX9_sells 74 = .ok (.iaload, 1) := by decide +kernel
theorem dX9_sells_75 : decode cX9_sells 75 = .ok (.iconst 1, 1) := by decide +kernel
theorem dX9_sells_76 : decode cX9_sells 76 = .ok (.iadd, 1) := by decide +kernel
theorem dX9_sells_77 : decode cX9_sells 77 = .ok (.iastore, 1) := by decide +kernel
theorem dX9_sells_78 : decode cX9_sells 78 = .ok (.aload_n 0, 1) := by decide +kernel
theorem dX9_sells_79 : decode cX9_sells 79 = .ok (.getfield 7, 3) := by decide +kernel
theorem dX9_sells_82 : decode cX9_sells 82 = .ok (.sipush 159, 3) := by decide +kernel
theorem dX9_sells_85 : decode cX9_sells 85 = .ok (.bipush 6, 2) := by decide +kernel
theorem dX9_sells_87 : decode cX9_sells 87 = .ok (.iload_n 2, 1) := by decide +kernel
theorem dX9_sells_88 : decode cX9_sells 88 = .ok (.imul, 1) := by decide +kernel
theorem dX9_sells_89 : decode cX9_sells 89 = .ok (.iadd, 1) := by decide +kernel
theorem dX9_sells_90 : decode cX9_sells 90 = .ok (.iconst 3, 1) := by decide +kernel
theorem dX9_sells_91 : decode cX9_sells 91 = .ok (.iadd, 1) := by decide +kernel
theorem dX9_sells_92 : decode cX9_sells 92 = .ok (.dup2, 1) := by decide +kernel
theorem dX9_sells_93 : decode cX9_sells 93 = .ok (.iaload, 1) := by decide +kernel
theorem dX9_sells_94 : decode cX9_sells 94 = .ok (.iload_n 3, 1) := by decide +kernel
theorem dX9_sells_95 : decode cX9_sells 95 = .ok (.iadd, 1) := by decide +kernel
theorem dX9_sells_96 : decode cX9_sells 96 = .ok (.iastore, 1) := by decide +kernel
theorem dX9_sells_97 : decode cX9_sells 97 = .ok (.aload_n 0, 1) := by decide +kernel
theorem dX9_sells_98 : decode cX9_sells 98 = .ok (.getfield 7, 3) := by decide +kernel
theorem dX9_sells_101 : decode cX9_sells 101 = .ok (.bipush 11, 2) := by decide +kernel
theorem dX9_sells_103 : decode cX9_sells 103 = .ok (.bipush 18, 2) := by decide +kernel
theorem dX9_sells_105 : decode cX9_sells 105 = .ok (.iload 4, 2) := by decide +kernel
theorem dX9_sells_107 : decode cX9_sells 107 = .ok (.imul, 1) := by decide +kernel
theorem dX9_sells_108 : decode cX9_sells 108 = .ok (.iadd, 1) := by decide +kernel
theorem dX9_sells_109 : decode cX9_sells 109 = .ok (.iconst 5, 1) := by decide +kernel
theorem dX9_sells_110 : decode cX9_sells 110 = .ok (.iadd, 1) := by decide +kernel
theorem dX9_sells_111 : decode cX9_sells 111 = .ok (.dup2, 1) := by decide +kernel
theorem dX9_sells_112 : decode cX9_sells 112 = .ok (.iaload, 1) := by decide +kernel
theorem dX9_sells_113 : decode cX9_sells 113 = .ok (.iload_n 3, 1) := by decide +kernel
theorem dX9_sells_114 : decode cX9_sells 114 = .ok (.iadd, 1) := by decide +kernel
theorem dX9_sells_115 : decode cX9_sells 115 = .ok (.iastore, 1) := by decide +kernel
theorem dX9_sells_116 : decode cX9_sells 116 = .ok (.aload_n 0, 1) := by decide +kernel
theorem dX9_sells_117 : decode cX9_sells 117 = .ok (.getfield 7, 3) := by decide +kernel
theorem dX9_sells_120 : decode cX9_sells 120 = .ok (.bipush 7, 2) := by decide +kernel
theorem dX9_sells_122 : decode cX9_sells 122 = .ok (.dup2, 1) := by decide +kernel
theorem dX9_sells_123 : decode cX9_sells 123 = .ok (.iaload, 1) := by decide +kernel
theorem dX9_sells_124 : decode cX9_sells 124 = .ok (.iconst 1, 1) := by decide +kernel
theorem dX9_sells_125 : decode cX9_sells 125 = .ok (.iadd, 1) := by decide +kernel
theorem dX9_sells_126 : decode cX9_sells 126 = .ok (.iastore, 1) := by decide +kernel
theorem dX9_sells_127 : decode cX9_sells 127 = .ok (.aload_n 0, 1) := by decide +kernel
theorem dX9_sells_128 : decode cX9_sells 128 = .ok (.getfield 7, 3) := by decide +kernel
theorem dX9_sells_131 : decode cX9_sells 131 = .ok (.bipush 8, 2) := by decide +kernel
theorem dX9_sells_133 : decode cX9_sells 133 = .ok (.dup2, 1) := by decide +kernel
theorem dX9_sells_134 : decode cX9_sells 134 = .ok (.iaload, 1) := by decide +kernel
theorem dX9_sells_135 : decode cX9_sells 135 = .ok (.iload_n 3, 1) := by decide +kernel
theorem dX9_sells_136 : decode cX9_sells 136 = .ok (.iadd, 1) := by decide +kernel
theorem dX9_sells_137 : decode cX9_sells 137 = .ok (.iastore, 1) := by decide +kernel
theorem dX9_sells_138 : decode cX9_sells 138 = .ok (.aload_n 0, 1) := by decide +kernel
theorem dX9_sells_139 : decode cX9_sells 139 = .ok (.iload_n 1, 1) := by decide +kernel
theorem dX9_sells_140 : decode cX9_sells 140 = .ok (.invokevirtual 84, 3) := by decide +kernel
theorem dX9_sells_143 : decode cX9_sells 143 = .ok (.iload_n 3, 1) := by decide +kernel
theorem dX9_sells_144 : decode cX9_sells 144 = .ok (.ireturn, 1) := by decide +kernel
theorem dX9_sell_0 : decode cX9_sell 0 = .ok (.aload_n 0, 1) := by decide +kernel
theorem dX9_sell_1 : decode cX9_sell 1 = .ok (.iload_n 1, 1) := by decide +kernel
theorem dX9_sell_2 : decode cX9_sell 2 = .ok (.invokevirtual 75, 3) := by decide +kernel
theorem dX9_sell_5 : decode cX9_sell 5 = .ok (.istore_n 3, 1) := by decide +kernel
theorem dX9_sell_6 : decode cX9_sell 6 = .ok (.iload_n 3, 1) := by decide +kernel
theorem dX9_sell_7 : decode cX9_sell 7 = .ok (.ifCond .lt 11, 3) := by decide +kernel
theorem dX9_sell_10 : decode cX9_sell 10 = .ok (.aload_n 0, 1) := by decide +kernel
theorem dX9_sell_11 : decode cX9_sell 11 = .ok (.iload_n 2, 1) := by decide +kernel
theorem dX9_sell_12 : decode cX9_sell 12 = .ok (.invokevirtual 110, 3) := by decide +kernel
theorem dX9_sell_15 : decode cX9_sell 15 = .ok (.ifCond .ne 6, 3) := by decide +kernel
theorem dX9_sell_18 : decode cX9_sell 18 = .ok (.ldc 51, 2) := by decide +kernel
theorem dX9_sell_20 : decode cX9_sell 20 = .ok (.ireturn, 1) := by decide +kernel
theorem dX9_sell_21 : decode cX9_sell 21 = .ok (.aload_n 0, 1) := by decide +kernel
theorem dX9_sell_22 : decode cX9_sell 22 = .ok (.iload_n 3, 1) := by decide +kernel
theorem dX9_sell_23 : decode cX9_sell 23 = .ok (.iload_n 2, 1) := by decide +kernel
theorem dX9_sell_24 : decode cX9_sell 24 = .ok (.invokevirtual 113, 3) := by decide +kernel
theorem dX9_sell_27 : decode cX9_sell 27 = .ok (.ifCond .ne 6, 3) := by decide +kernel
theorem dX9_sell_30 : decode cX9_sell 30 = .ok (.ldc 52, 2) := by decide +kernel
theorem dX9_sell_32 : decode cX9_sell 32 = .ok (.ireturn, 1) := by decide +kernel
theorem dX9_sell_33 : decode cX9_sell 33 = .ok (.aload_n 0, 1) := by decide +kernel
theorem dX9_sell_34 : decode cX9_sell 34 = .ok (.invokevirtual 54, 3) := by decide +kernel
theorem dX9_sell_37 : decode cX9_sell 37 = .ok (.aload_n 0, 1) := by decide +kernel
theorem dX9_sell_38 : decode cX9_sell 38 = .ok (.iload_n 3, 1) := by decide +kernel
theorem dX9_sell_39 : decode cX9_sell 39 = .ok (.iload_n 2, 1) := by decide +kernel
theorem dX9_sell_40 : decode cX9_sell 40 = .ok (.invokevirtual 117, 3) := by decide +kernel
theorem dX9_sell_43 : decode cX9_sell 43 = .ok (.ireturn, 1) := by decide +kernel
theorem dX9_sees_0 : decode cX9_sees 0 = .ok (.iconst 0, 1) := by decide +kernel
theorem dX9_sees_1 : decode cX9_sees 1 = .ok (.istore_n 2, 1) := by decide +kernel
theorem dX9_sees_2 : decode cX9_sees 2 = .ok (.iload_n 2, 1) := by decide +kernel
theorem dX9_sees_3 : decode cX9_sees 3 = .ok (.bipush 12, 2) := by decide +kernel
theorem dX9_sees_5 : decode cX9_sees 5 = .ok (.if_icmp .ge 37, 3) := by decide +kernel
theorem dX9_sees_8 : decode cX9_sees 8 = .ok (.aload_n 0, 1) := by decide +kernel
theorem dX9_sees_9 : decode cX9_sees 9 = .ok (.iload_n 1, 1) := by decide +kernel
theorem dX9_sees_10 : decode cX9_sees 10 = .ok (.invokevirtual 64, 3) := by decide +kernel
theorem dX9_sees_13 : decode cX9_sees 13 = .ok (.iload_n 2, 1) := by decide +kernel
theorem dX9_sees_14 : decode cX9_sees 14 = .ok (.ishr, 1) := by decide +kernel
theorem dX9_sees_15 : decode cX9_sees 15 = .ok (.iconst 1, 1) := by decide +kernel
theorem dX9_sees_16 : decode cX9_sees 16 = .ok (.iand, 1) := by decide +kernel
theorem dX9_sees_17 : decode cX9_sees 17 = .ok (.iconst 1, 1) := by decide +kernel
theorem dX9_sees_18 : decode cX9_sees 18 = .ok (.if_icmp .ne 18, 3) := by decide +kernel
theorem dX9_sees_21 : decode cX9_sees 21 = .ok (.aload_n 0, 1) := by decide +kernel
theorem dX9_sees_22 : decode cX9_sees 22 = .ok (.iload_n 1, 1) := by decide +kernel
theorem dX9_sees_23 : decode cX9_sees 23 = .ok (.bipush 6, 2) := by decide +kernel
theorem dX9_sees_25 : decode cX9_sees 25 = .ok (.iload_n 2, 1) := by decide +kernel
theorem dX9_sees_26 : decode cX9_sees 26 = .ok (.iadd, 1) := by decide +kernel
theorem dX9_sees_27 : decode cX9_sees 27 = .ok (.aload_n 0, 1) := by decide +kernel
theorem dX9_sees_28 : decode cX9_sees 28 = .ok (.getfield 7, 3) := by decide +kernel
theorem dX9_sees_31 : decode cX9_sees 31 = .ok (.iconst 4, 1) := by decide +kernel
theorem dX9_sees_32 : decode cX9_sees 32 = .ok (.iaload, 1) := by decide +kernel
theorem dX9_sees_33 : decode cX9_sees 33 = .ok (.invokevirtual 57, 3) := by decide +kernel
theorem dX9_sees_36 : decode cX9_sees 36 = .ok (.iinc 2 1, 3) := by decide +kernel
theorem dX9_sees_39 : decode cX9_sees 39 = .ok (.goto (-37), 3) := by decide +kernel
theorem dX9_sees_42 : decode cX9_sees 42 = .ok (.return_, 1) := by decide +kernel
theorem dX9_minute_0 : decode cX9_minute 0 = .ok (.aload_n 0, 1) := by decide +kernel
theorem dX9_minute_1 : decode cX9_minute 1 = .ok (.getfield 7, 3) := by decide +kernel
theorem dX9_minute_4 : decode cX9_minute 4 = .ok (.iconst 5, 1) := by decide +kernel
theorem dX9_minute_5 : decode cX9_minute 5 = .ok (.iaload, 1) := by decide +kernel
theorem dX9_minute_6 : decode cX9_minute 6 = .ok (.ifCond .lt 13, 3) := by decide +kernel
theorem dX9_minute_9 : decode cX9_minute 9 = .ok (.aload_n 0, 1) := by decide +kernel
theorem dX9_minute_10 : decode cX9_minute 10 = .ok (.aload_n 0, 1) := by decide +kernel
theorem dX9_minute_11 : decode cX9_minute 11 = .ok (.getfield 7, 3) := by decide +kernel
theorem dX9_minute_14 : decode cX9_minute 14 = .ok (.iconst 5, 1) := by decide +kernel
theorem dX9_minute_15 : decode cX9_minute 15 = .ok (.iaload, 1) := by decide +kernel
theorem dX9_minute_16 : decode cX9_minute 16 = .ok (.invokevirtual 120, 3) := by decide +kernel
theorem dX9_minute_19 : decode cX9_minute 19 = .ok (.iconst 0, 1) := by decide +kernel
theorem dX9_minute_20 : decode cX9_minute 20 = .ok (.istore_n 1, 1) := by decide +kernel
theorem dX9_minute_21 : decode cX9_minute 21 = .ok (.iload_n 1, 1) := by decide +kernel
theorem dX9_minute_22 : decode cX9_minute 22 = .ok (.aload_n 0, 1) := by decide +kernel
theorem dX9_minute_23 : decode cX9_minute 23 = .ok (.getfield 7, 3) := by decide +kernel
theorem dX9_minute_26 : decode cX9_minute 26 = .ok (.iconst 0, 1) := by decide +kernel
theorem dX9_minute_27 : decode cX9_minute 27 = .ok (.iaload, 1) := by decide +kernel
theorem dX9_minute_28 : decode cX9_minute 28 = .ok (.if_icmp .ge 31, 3) := by decide +kernel
theorem dX9_minute_31 : decode cX9_minute 31 = .ok (.aload_n 0, 1) := by decide +kernel
theorem dX9_minute_32 : decode cX9_minute 32 = .ok (.iload_n 1, 1) := by decide +kernel
theorem dX9_minute_33 : decode cX9_minute 33 = .ok (.iconst 2, 1) := by decide +kernel
theorem dX9_minute_34 : decode cX9_minute 34 = .ok (.aload_n 0, 1) := by decide +kernel
theorem dX9_minute_35 : decode cX9_minute 35 = .ok (.iload_n 1, 1) := by decide +kernel
theorem dX9_minute_36 : decode cX9_minute 36 = .ok (.iconst 2, 1) := by decide +kernel
theorem dX9_minute_37 : decode cX9_minute 37 = .ok (.invokevirtual 36, 3) := by decide +kernel
theorem dX9_minute_40 : decode cX9_minute 40 = .ok (.aload_n 0, 1) := by decide +kernel
theorem dX9_minute_41 : decode cX9_minute 41 = .ok (.iload_n 1, 1) := by decide +kernel
theorem dX9_minute_42 : decode cX9_minute 42 = .ok (.iconst 3, 1) := by decide +kernel
theorem dX9_minute_43 : decode cX9_minute 43 = .ok (.invokevirtual 36, 3) := by decide +kernel
theorem dX9_minute_46 : decode cX9_minute 46 = .ok (.iadd, 1) := by decide +kernel
theorem dX9_minute_47 : decode cX9_minute 47 = .ok (.bipush 12, 2) := by decide +kernel
theorem dX9_minute_49 : decode cX9_minute 49 = .ok (.irem, 1) := by decide +kernel
theorem dX9_minute_50 : decode cX9_minute 50 = .ok (.invokevirtual 57, 3) := by decide +kernel
theorem dX9_minute_53 : decode cX9_minute 53 = .ok (.iinc 1 1, 3) := by decide +kernel
theorem dX9_minute_56 : decode cX9_minute 56 = .ok (.goto (-35), 3) := by decide +kernel
theorem dX9_minute_59 : decode cX9_minute 59 = .ok (.aload_n 0, 1) := by decide +kernel
theorem dX9_minute_60 : decode cX9_minute 60 = .ok (.getfield 7, 3) := by decide +kernel
theorem dX9_minute_63 : decode cX9_minute 63 = .ok (.iconst 4, 1) := by decide +kernel
theorem dX9_minute_64 : decode cX9_minute 64 = .ok (.dup2, 1) := by decide +kernel
theorem dX9_minute_65 : decode cX9_minute 65 = .ok (.iaload, 1) := by decide +kernel
theorem dX9_minute_66 : decode cX9_minute 66 = .ok (.iconst 1, 1) := by decide +kernel
theorem dX9_minute_67 : decode cX9_minute 67 = .ok (.iadd, 1) := by decide +kernel
theorem dX9_minute_68 : decode cX9_minute 68 = .ok (.iastore, 1) := by decide +kernel
theorem dX9_minute_69 : decode cX9_minute 69 = .ok (.aload_n 0, 1) := by decide +kernel
theorem dX9_minute_70 : decode cX9_minute 70 = .ok (.getfield 7, 3) := by decide +kernel
theorem dX9_minute_73 : decode cX9_minute 73 = .ok (.bipush 6, 2) := by decide +kernel
theorem dX9_minute_75 : decode cX9_minute 75 = .ok (.iconst 0, 1) := by decide +kernel
theorem dX9_minute_76 : decode cX9_minute 76 = .ok (.iastore, 1) := by decide +kernel
theorem dX9_minute_77 : decode cX9_minute 77 = .ok (.return_, 1) := by decide +kernel
theorem dX9_pass_0 : decode cX9_pass 0 = .ok (.iload_n 1, 1) := by decide +kernel
theorem dX9_pass_1 : decode cX9_pass 1 = .ok (.iconst 1, 1) := by decide +kernel
theorem dX9_pass_2 : decode cX9_pass 2 = .ok (.sipush 300, 3) := by decide +kernel
theorem dX9_pass_5 : decode cX9_pass 5 = .ok (.invokestatic 47, 3) := by decide +kernel
theorem dX9_pass_8 : decode cX9_pass 8 = .ok (.ifCond .ne 6, 3) := by decide +kernel
theorem dX9_pass_11 : decode cX9_pass 11 = .ok (.ldc 51, 2) := by decide +kernel
theorem dX9_pass_13 : decode cX9_pass 13 = .ok (.ireturn, 1) := by decide +kernel
theorem dX9_pass_14 : decode cX9_pass 14 = .ok (.aload_n 0, 1) := by decide +kernel
theorem dX9_pass_15 : decode cX9_pass 15 = .ok (.getfield 7, 3) := by decide +kernel
theorem dX9_pass_18 : decode cX9_pass 18 = .ok (.iconst 4, 1) := by decide +kernel
theorem dX9_pass_19 : decode cX9_pass 19 = .ok (.iaload, 1) := by decide +kernel
theorem dX9_pass_20 : decode cX9_pass 20 = .ok (.iload_n 1, 1) := by decide +kernel
theorem dX9_pass_21 : decode cX9_pass 21 = .ok (.iadd, 1) := by decide +kernel
theorem dX9_pass_22 : decode cX9_pass 22 = .ok (.sipush 9999, 3) := by decide +kernel
theorem dX9_pass_25 : decode cX9_pass 25 = .ok (.if_icmp .le 6, 3) := by decide +kernel
theorem dX9_pass_28 : decode cX9_pass 28 = .ok (.ldc 53, 2) := by decide +kernel
theorem dX9_pass_30 : decode cX9_pass 30 = .ok (.ireturn, 1) := by decide +kernel
theorem dX9_pass_31 : decode cX9_pass 31 = .ok (.aload_n 0, 1) := by decide +kernel
theorem dX9_pass_32 : decode cX9_pass 32 = .ok (.invokevirtual 54, 3) := by decide +kernel
theorem dX9_pass_35 : decode cX9_pass 35 = .ok (.iconst 0, 1) := by decide +kernel
theorem dX9_pass_36 : decode cX9_pass 36 = .ok (.istore_n 2, 1) := by decide +kernel
theorem dX9_pass_37 : decode cX9_pass 37 = .ok (.iload_n 2, 1) := by decide +kernel
theorem dX9_pass_38 : decode cX9_pass 38 = .ok (.iload_n 1, 1) := by decide +kernel
theorem dX9_pass_39 : decode cX9_pass 39 = .ok (.if_icmp .ge 13, 3) := by decide +kernel
theorem dX9_pass_42 : decode cX9_pass 42 = .ok (.aload_n 0, 1) := by decide +kernel
theorem dX9_pass_43 : decode cX9_pass 43 = .ok (.invokevirtual 123, 3) := by decide +kernel
theorem dX9_pass_46 : decode cX9_pass 46 = .ok (.iinc 2 1, 3) := by decide +kernel
theorem dX9_pass_49 : decode cX9_pass 49 = .ok (.goto (-12), 3) := by decide +kernel
theorem dX9_pass_52 : decode cX9_pass 52 = .ok (.iconst 0, 1) := by decide +kernel
theorem dX9_pass_53 : decode cX9_pass 53 = .ok (.istore_n 2, 1) := by decide +kernel
theorem dX9_pass_54 : decode cX9_pass 54 = .ok (.iconst 0, 1) := by decide +kernel
theorem dX9_pass_55 : decode cX9_pass 55 = .ok (.istore_n 3, 1) := by decide +kernel
theorem dX9_pass_56 : decode cX9_pass 56 = .ok (.iload_n 3, 1) := by decide +kernel
theorem dX9_pass_57 : decode cX9_pass 57 = .ok (.aload_n 0, 1) := by decide +kernel
theorem dX9_pass_58 : decode cX9_pass 58 = .ok (.getfield 7, 3) := by decide +kernel
theorem dX9_pass_61 : decode cX9_pass 61 = .ok (.iconst 0, 1) := by decide +kernel
theorem dX9_pass_62 : decode cX9_pass 62 = .ok (.iaload, 1) := by decide +kernel
theorem dX9_pass_63 : decode cX9_pass 63 = .ok (.if_icmp .ge 20, 3) := by decide +kernel
theorem dX9_pass_66 : decode cX9_pass 66 = .ok (.iload_n 2, 1) := by decide +kernel
theorem dX9_pass_67 : decode cX9_pass 67 = .ok (.aload_n 0, 1) := by decide +kernel
theorem dX9_pass_68 : decode cX9_pass 68 = .ok (.iload_n 3, 1) := by decide +kernel
theorem dX9_pass_69 : decode cX9_pass 69 = .ok (.invokevirtual 72, 3) := by decide +kernel
theorem dX9_pass_72 : decode cX9_pass 72 = .ok (.invokestatic 81, 3) := by decide +kernel
theorem dX9_pass_75 : decode cX9_pass 75 = .ok (.iadd, 1) := by decide +kernel
theorem dX9_pass_76 : decode cX9_pass 76 = .ok (.istore_n 2, 1) := by decide +kernel
theorem dX9_pass_77 : decode cX9_pass 77 = .ok (.iinc 3 1, 3) := by decide +kernel
theorem dX9_pass_80 : decode cX9_pass 80 = .ok (.goto (-24), 3) := by decide +kernel
theorem dX9_pass_83 : decode cX9_pass 83 = .ok (.iload_n 2, 1) := by decide +kernel
theorem dX9_pass_84 : decode cX9_pass 84 = .ok (.ireturn, 1) := by decide +kernel
theorem dX9_set_0 : decode cX9_set 0 = .ok (.iload_n 1, 1) := by decide +kernel
theorem dX9_set_1 : decode cX9_set 1 = .ok (.iconst 0, 1) := by decide +kernel
theorem dX9_set_2 : decode cX9_set 2 = .ok (.iconst 1, 1) := by decide +kernel
theorem dX9_set_3 : decode cX9_set 3 = .ok (.invokestatic 47, 3) := by decide +kernel
theorem dX9_set_6 : decode cX9_set 6 = .ok (.ifCond .eq 25, 3) := by decide +kernel
theorem dX9_set_9 : decode cX9_set 9 = .ok (.iload_n 2, 1) := by decide +kernel
theorem dX9_set_10 : decode cX9_set 10 = .ok (.iconst 1, 1) := by decide +kernel
theorem dX9_set_11 : decode cX9_set 11 = .ok (.iload_n 1, 1) := by decide +kernel
theorem dX9_set_12 : decode cX9_set 12 = .ok (.isub, 1) := by decide +kernel
theorem dX9_set_13 : decode cX9_set 13 = .ok (.iload_n 1, 1) := by decide +kernel
theorem dX9_set_14 : decode cX9_set 14 = .ok (.ifCond .ne 9, 3) := by decide +kernel
theorem dX9_set_17 : decode cX9_set 17 = .ok (.sipush 200, 3) := by decide +kernel
theorem dX9_set_20 : decode cX9_set 20 = .ok (.goto 5, 3) := by decide +kernel
theorem dX9_set_23 : decode cX9_set 23 = .ok (.bipush 60, 2) := by decide +kernel
theorem dX9_set_25 : decode cX9_set 25 = .ok (.invokestatic 47, 3) := by decide +kernel
theorem dX9_set_28 : decode cX9_set 28 = .ok (.ifCond .ne 6, 3) := by decide +kernel
theorem dX9_set_31 : decode cX9_set 31 = .ok (.ldc 51, 2) := by decide +kernel
theorem dX9_set_33 : decode cX9_set 33 = .ok (.ireturn, 1) := by decide +kernel
theorem dX9_set_34 : decode cX9_set 34 = .ok (.aload_n 0, 1) := by decide +kernel
theorem dX9_set_35 : decode cX9_set 35 = .ok (.invokevirtual 54, 3) := by decide +kernel
theorem dX9_set_38 : decode cX9_set 38 = .ok (.aload_n 0, 1) := by decide +kernel
theorem dX9_set_39 : decode cX9_set 39 = .ok (.getfield 7, 3) := by decide +kernel
theorem dX9_set_42 : decode cX9_set 42 = .ok (.bipush 9, 2) := by decide +kernel
theorem dX9_set_44 : decode cX9_set 44 = .ok (.iload_n 1, 1) := by decide +kernel
theorem dX9_set_45 : decode cX9_set 45 = .ok (.iadd, 1) := by decide +kernel
theorem dX9_set_46 : decode cX9_set 46 = .ok (.iaload, 1) := by decide +kernel
theorem dX9_set_47 : decode cX9_set 47 = .ok (.istore_n 3, 1) := by decide +kernel
theorem dX9_set_48 : decode cX9_set 48 = .ok (.aload_n 0, 1) := by decide +kernel
theorem dX9_set_49 : decode cX9_set 49 = .ok (.getfield 7, 3) := by decide +kernel
theorem dX9_set_52 : decode cX9_set 52 = .ok (.bipush 9, 2) := by decide +kernel
theorem dX9_set_54 : decode cX9_set 54 = .ok (.iload_n 1, 1) := by decide +kernel
theorem dX9_set_55 : decode cX9_set 55 = .ok (.iadd, 1) := by decide +kernel
theorem dX9_set_56 : decode cX9_set 56 = .ok (.iload_n 2, 1) := by decide +kernel
theorem dX9_set_57 : decode cX9_set 57 = .ok (.iastore, 1) := by decide +kernel
theorem dX9_set_58 : decode cX9_set 58 = .ok (.iload_n 3, 1) := by decide +kernel
theorem dX9_set_59 : decode cX9_set 59 = .ok (.ireturn, 1) := by decide +kernel
theorem dX9_personOf_0 : decode cX9_personOf 0 = .ok (.aload_n 0, 1) := by decide +kernel
theorem dX9_personOf_1 : decode cX9_personOf 1 = .ok (.iload_n 1, 1) := by decide +kernel
theorem dX9_personOf_2 : decode cX9_personOf 2 = .ok (.invokevirtual 61, 3) := by decide +kernel
theorem dX9_personOf_5 : decode cX9_personOf 5 = .ok (.ifCond .eq 13, 3) := by decide +kernel
theorem dX9_personOf_8 : decode cX9_personOf 8 = .ok (.iload_n 2, 1) := by decide +kernel
theorem dX9_personOf_9 : decode cX9_personOf 9 = .ok (.iconst 0, 1) := by decide +kernel
theorem dX9_personOf_10 : decode cX9_personOf 10 = .ok (.bipush 8, 2) := by decide +kernel
theorem dX9_personOf_12 : decode cX9_personOf 12 = .ok (.invokestatic 47, 3) := by decide +kernel
theorem dX9_personOf_15 : decode cX9_personOf 15 = .ok (.ifCond .ne 6, 3) := by decide +kernel
theorem dX9_personOf_18 : decode cX9_personOf 18 = .ok (.ldc 51, 2) := by decide +kernel
theorem dX9_personOf_20 : decode cX9_personOf 20 = .ok (.ireturn, 1) := by decide +kernel
theorem dX9_personOf_21 : decode cX9_personOf 21 = .ok (.iload_n 2, 1) := by decide +kernel
theorem dX9_personOf_22 : decode cX9_personOf 22 = .ok (.tableswitch 73 4 8 #[34, 40, 46, 60, 66], 34) := by decide +kernel
theorem dX9_personOf_56 : decode cX9_personOf 56 = .ok (.aload_n 0, 1) := by decide +kernel
theorem dX9_personOf_57 : decode cX9_personOf 57 = .ok (.iload_n 1, 1) := by decide +kernel
theorem dX9_personOf_58 : decode cX9_personOf 58 = .ok (.invokevirtual 64, 3) := by decide +kernel
theorem dX9_personOf_61 : decode cX9_personOf 61 = .ok (.ireturn, 1) := by decide +kernel
theorem dX9_personOf_62 : decode cX9_personOf 62 = .ok (.aload_n 0, 1) := by decide +kernel
theorem dX9_personOf_63 : decode cX9_personOf 63 = .ok (.iload_n 1, 1) := by decide +kernel
theorem dX9_personOf_64 : decode cX9_personOf 64 = .ok (.invokevirtual 72, 3) := by decide +kernel
theorem dX9_personOf_67 : decode cX9_personOf 67 = .ok (.ireturn, 1) := by decide +kernel
theorem dX9_personOf_68 : decode cX9_personOf 68 = .ok (.aload_n 0, 1) := by decide +kernel
theorem dX9_personOf_69 : decode cX9_personOf 69 = .ok (.iload_n 1, 1) := by decide +kernel
theorem dX9_personOf_70 : decode cX9_personOf 70 = .ok (.invokevirtual 92, 3) := by decide +kernel
theorem dX9_personOf_73 : decode cX9_personOf 73 = .ok (.ifCond .eq 7, 3) := by decide +kernel
theorem dX9_personOf_76 : decode cX9_personOf 76 = .ok (.iconst 1, 1) := by decide +kernel
theorem dX9_personOf_77 : decode cX9_personOf 77 = .ok (.goto 4, 3) := by decide +kernel
theorem dX9_personOf_80 : decode cX9_personOf 80 = .ok (.iconst 0, 1) := by decide +kernel
theorem dX9_personOf_81 : decode cX9_personOf 81 = .ok (.ireturn, 1) := by decide +kernel
theorem dX9_personOf_82 : decode cX9_personOf 82 = .ok (.aload_n 0, 1) := by decide +kernel
theorem dX9_personOf_83 : decode cX9_personOf 83 = .ok (.iload_n 1, 1) := by decide +kernel
theorem dX9_personOf_84 : decode cX9_personOf 84 = .ok (.invokevirtual 95, 3) := by decide +kernel
theorem dX9_personOf_87 : decode cX9_personOf 87 = .ok (.ireturn, 1) := by decide +kernel
theorem dX9_personOf_88 : decode cX9_personOf 88 = .ok (.aload_n 0, 1) := by decide +kernel
theorem dX9_personOf_89 : decode cX9_personOf 89 = .ok (.iload_n 1, 1) := by decide +kernel
theorem dX9_personOf_90 : decode cX9_personOf 90 = .ok (.iconst 5, 1) := by decide +kernel
theorem dX9_personOf_91 : decode cX9_personOf 91 = .ok (.invokevirtual 36, 3) := by decide +kernel
theorem dX9_personOf_94 : decode cX9_personOf 94 = .ok (.ireturn, 1) := by decide +kernel
theorem dX9_personOf_95 : decode cX9_personOf 95 = .ok (.aload_n 0, 1) := by decide +kernel
theorem dX9_personOf_96 : decode cX9_personOf 96 = .ok (.iload_n 1, 1) := by decide +kernel
theorem dX9_personOf_97 : decode cX9_personOf 97 = .ok (.iload_n 2, 1) := by decide +kernel
theorem dX9_personOf_98 : decode cX9_personOf 98 = .ok (.invokevirtual 36, 3) := by decide +kernel
theorem dX9_personOf_101 : decode cX9_personOf 101 = .ok (.ireturn, 1) := by decide +kernel
theorem dX9_sheetOf_0 : decode cX9_sheetOf 0 = .ok (.aload_n 0, 1) := by decide +kernel
theorem dX9_sheetOf_1 : decode cX9_sheetOf 1 = .ok (.iload_n 1, 1) := by decide +kernel
theorem dX9_sheetOf_2 : decode cX9_sheetOf 2 = .ok (.invokevirtual 75, 3) := by decide +kernel
theorem dX9_sheetOf_5 : decode cX9_sheetOf 5 = .ok (.istore_n 3, 1) := by decide +kernel
theorem dX9_sheetOf_6 : decode cX9_sheetOf 6 = .ok (.iload_n 3, 1) := by decide +kernel
theorem dX9_sheetOf_7 : decode cX9_sheetOf 7 = .ok (.ifCond .lt 12, 3) := by decide +kernel
theorem dX9_sheetOf_10 : decode cX9_sheetOf 10 = .ok (.iload_n 2, 1) := by decide +kernel
theorem dX9_sheetOf_11 : decode cX9_sheetOf 11 = .ok (.iconst 0, 1) := by decide +kernel
theorem dX9_sheetOf_12 : decode cX9_sheetOf 12 = .ok (.iconst 5, 1) := by decide +kernel
theorem dX9_sheetOf_13 : decode cX9_sheetOf 13 = .ok (.invokestatic 47, 3) := by decide +kernel
theorem dX9_sheetOf_16 : decode cX9_sheetOf 16 = .ok (.ifCond .ne 6, 3) := by decide +kernel
theorem dX9_sheetOf_19 : decode cX9_sheetOf 19 = .ok (.ldc 51, 2) := by decide +kernel
theorem dX9_sheetOf_21 : decode cX9_sheetOf 21 = .ok (.ireturn, 1) := by decide +kernel
theorem dX9_sheetOf_22 : decode cX9_sheetOf 22 = .ok (.iload_n 2, 1) := by decide +kernel
theorem dX9_sheetOf_23 : decode cX9_sheetOf 23 = .ok (.tableswitch 99 0 4 #[33, 33, 42, 52, 66], 33) := by decide +kernel
theorem dX9_sheetOf_56 : decode cX9_sheetOf 56 = .ok (.aload_n 0, 1) := by decide +kernel
theorem dX9_sheetOf_57 : decode cX9_sheetOf 57 = .ok (.iload_n 3, 1) := by decide +kernel
theorem dX9_sheetOf_58 : decode cX9_sheetOf 58 = .ok (.iload_n 2, 1) := by decide +kernel
theorem dX9_sheetOf_59 : decode cX9_sheetOf 59 = .ok (.iconst 1, 1) := by decide +kernel
theorem dX9_sheetOf_60 : decode cX9_sheetOf 60 = .ok (.iadd, 1) := by decide +kernel
theorem dX9_sheetOf_61 : decode cX9_sheetOf 61 = .ok (.invokevirtual 68, 3) := by decide +kernel
theorem dX9_sheetOf_64 : decode cX9_sheetOf 64 = .ok (.ireturn, 1) := by decide +kernel
theorem dX9_sheetOf_65 : decode cX9_sheetOf 65 = .ok (.aload_n 0, 1) := by decide +kernel
theorem dX9_sheetOf_66 : decode cX9_sheetOf 66 = .ok (.iload_n 3, 1) := by decide +kernel
theorem dX9_sheetOf_67 : decode cX9_sheetOf 67 = .ok (.iconst 2, 1) := by decide +kernel
theorem dX9_sheetOf_68 : decode cX9_sheetOf 68 = .ok (.invokevirtual 68, 3) := by decide +kernel
theorem dX9_sheetOf_71 : decode cX9_sheetOf 71 = .ok (.invokestatic 81, 3) := by decide +kernel
theorem dX9_sheetOf_74 : decode cX9_sheetOf 74 = .ok (.ireturn, 1) := by decide +kernel
theorem dX9_sheetOf_75 : decode cX9_sheetOf 75 = .ok (.aload_n 0, 1) := by decide +kernel
theorem dX9_sheetOf_76 : decode cX9_sheetOf 76 = .ok (.iload_n 3, 1) := by decide +kernel
theorem dX9_sheetOf_77 : decode cX9_sheetOf 77 = .ok (.invokevirtual 101, 3) := by decide +kernel
theorem dX9_sheetOf_80 : decode cX9_sheetOf 80 = .ok (.ifCond .eq 7, 3) := by decide +kernel
theorem dX9_sheetOf_83 : decode cX9_sheetOf 83 = .ok (.iconst 1, 1) := by decide +kernel
theorem dX9_sheetOf_84 : decode cX9_sheetOf 84 = .ok (.goto 4, 3) := by decide +kernel
theorem dX9_sheetOf_87 : decode cX9_sheetOf 87 = .ok (.iconst 0, 1) := by decide +kernel
theorem dX9_sheetOf_88 : decode cX9_sheetOf 88 = .ok (.ireturn, 1) := by decide +kernel
theorem dX9_sheetOf_89 : decode cX9_sheetOf 89 = .ok (.aload_n 0, 1) := by decide +kernel
theorem dX9_sheetOf_90 : decode cX9_sheetOf 90 = .ok (.iload_n 3, 1) := by decide +kernel
theorem dX9_sheetOf_91 : decode cX9_sheetOf 91 = .ok (.iconst 3, 1) := by decide +kernel
theorem dX9_sheetOf_92 : decode cX9_sheetOf 92 = .ok (.invokevirtual 68, 3) := by decide +kernel
theorem dX9_sheetOf_95 : decode cX9_sheetOf 95 = .ok (.aload_n 0, 1) := by decide +kernel
theorem dX9_sheetOf_96 : decode cX9_sheetOf 96 = .ok (.getfield 7, 3) := by decide +kernel
theorem dX9_sheetOf_99 : decode cX9_sheetOf 99 = .ok (.iconst 4, 1) := by decide +kernel
theorem dX9_sheetOf_100 : decode cX9_sheetOf 100 = .ok (.iaload, 1) := by decide +kernel
theorem dX9_sheetOf_101 : decode cX9_sheetOf 101 = .ok (.if_icmp .le 19, 3) := by decide +kernel
theorem dX9_sheetOf_104 : decode cX9_sheetOf 104 = .ok (.aload_n 0, 1) := by decide +kernel
theorem dX9_sheetOf_105 : decode cX9_sheetOf 105 = .ok (.iload_n 3, 1) := by decide +kernel
theorem dX9_sheetOf_106 : decode cX9_sheetOf 106 = .ok (.iconst 3, 1) := by decide +kernel
theorem dX9_sheetOf_107 : decode cX9_sheetOf 107 = .ok (.invokevirtual 68, 3) := by decide +kernel
theorem dX9_sheetOf_110 : decode cX9_sheetOf 110 = .ok (.aload_n 0, 1) := by decide +kernel
theorem dX9_sheetOf_111 : decode cX9_sheetOf 111 = .ok (.getfield 7, 3) := by decide +kernel
theorem dX9_sheetOf_114 : decode cX9_sheetOf 114 = .ok (.iconst 4, 1) := by decide +kernel
theorem dX9_sheetOf_115 : decode cX9_sheetOf 115 = .ok (.iaload, 1) := by decide +kernel
theorem dX9_sheetOf_116 : decode cX9_sheetOf 116 = .ok (.isub, 1) := by decide +kernel
theorem dX9_sheetOf_117 : decode cX9_sheetOf 117 = .ok (.goto 4, 3) := by decide +kernel
theorem dX9_sheetOf_120 : decode cX9_sheetOf 120 = .ok (.iconst 0, 1) := by decide +kernel
theorem dX9_sheetOf_121 : decode cX9_sheetOf 121 = .ok (.ireturn, 1) := by decide +kernel
theorem dX9_sheetOf_122 : decode cX9_sheetOf 122 = .ok (.aload_n 0, 1) := by decide +kernel
theorem dX9_sheetOf_123 : decode cX9_sheetOf 123 = .ok (.iload_n 3, 1) := by decide +kernel
theorem dX9_sheetOf_124 : decode cX9_sheetOf 124 = .ok (.invokevirtual 78, 3) := by decide +kernel
theorem dX9_sheetOf_127 : decode cX9_sheetOf 127 = .ok (.ireturn, 1) := by decide +kernel
theorem dX9_paperOf_0 : decode cX9_paperOf 0 = .ok (.aload_n 0, 1) := by decide +kernel
theorem dX9_paperOf_1 : decode cX9_paperOf 1 = .ok (.iload_n 1, 1) := by decide +kernel
theorem dX9_paperOf_2 : decode cX9_paperOf 2 = .ok (.invokevirtual 110, 3) := by decide +kernel
theorem dX9_paperOf_5 : decode cX9_paperOf 5 = .ok (.ifCond .eq 12, 3) := by decide +kernel
theorem dX9_paperOf_8 : decode cX9_paperOf 8 = .ok (.iload_n 2, 1) := by decide +kernel
theorem dX9_paperOf_9 : decode cX9_paperOf 9 = .ok (.iconst 0, 1) := by decide +kernel
theorem dX9_paperOf_10 : decode cX9_paperOf 10 = .ok (.iconst 4, 1) := by decide +kernel
theorem dX9_paperOf_11 : decode cX9_paperOf 11 = .ok (.invokestatic 47, 3) := by decide +kernel
theorem dX9_paperOf_14 : decode cX9_paperOf 14 = .ok (.ifCond .ne 6, 3) := by decide +kernel
theorem dX9_paperOf_17 : decode cX9_paperOf 17 = .ok (.ldc 51, 2) := by decide +kernel
theorem dX9_paperOf_19 : decode cX9_paperOf 19 = .ok (.ireturn, 1) := by decide +kernel
theorem dX9_paperOf_20 : decode cX9_paperOf 20 = .ok (.iload_n 2, 1) := by decide +kernel
theorem dX9_paperOf_21 : decode cX9_paperOf 21 = .ok (.iconst 4, 1) := by decide +kernel
theorem dX9_paperOf_22 : decode cX9_paperOf 22 = .ok (.if_icmp .ge 12, 3) := by decide +kernel
theorem dX9_paperOf_25 : decode cX9_paperOf 25 = .ok (.aload_n 0, 1) := by decide +kernel
theorem dX9_paperOf_26 : decode cX9_paperOf 26 = .ok (.iload_n 1, 1) := by decide +kernel
theorem dX9_paperOf_27 : decode cX9_paperOf 27 = .ok (.iload_n 2, 1) := by decide +kernel
theorem dX9_paperOf_28 : decode cX9_paperOf 28 = .ok (.invokevirtual 98, 3) := by decide +kernel
theorem dX9_paperOf_31 : decode cX9_paperOf 31 = .ok (.goto 8, 3) := by decide +kernel
theorem dX9_paperOf_34 : decode cX9_paperOf 34 = .ok (.aload_n 0, 1) := by decide +kernel
theorem dX9_paperOf_35 : decode cX9_paperOf 35 = .ok (.iload_n 1, 1) := by decide +kernel
theorem dX9_paperOf_36 : decode cX9_paperOf 36 = .ok (.invokevirtual 104, 3) := by decide +kernel
theorem dX9_paperOf_39 : decode cX9_paperOf 39 = .ok (.ireturn, 1) := by decide +kernel
theorem dX9_price_0 : decode cX9_price 0 = .ok (.aload_n 0, 1) := by decide +kernel
theorem dX9_price_1 : decode cX9_price 1 = .ok (.iload_n 1, 1) := by decide +kernel
theorem dX9_price_2 : decode cX9_price 2 = .ok (.invokevirtual 75, 3) := by decide +kernel
theorem dX9_price_5 : decode cX9_price 5 = .ok (.istore_n 3, 1) := by decide +kernel
theorem dX9_price_6 : decode cX9_price 6 = .ok (.iload_n 3, 1) := by decide +kernel
theorem dX9_price_7 : decode cX9_price 7 = .ok (.ifCond .lt 20, 3) := by decide +kernel
theorem dX9_price_10 : decode cX9_price 10 = .ok (.aload_n 0, 1) := by decide +kernel
theorem dX9_price_11 : decode cX9_price 11 = .ok (.iload_n 2, 1) := by decide +kernel
theorem dX9_price_12 : decode cX9_price 12 = .ok (.invokevirtual 110, 3) := by decide +kernel
theorem dX9_price_15 : decode cX9_price 15 = .ok (.ifCond .eq 12, 3) := by decide +kernel
theorem dX9_price_18 : decode cX9_price 18 = .ok (.aload_n 0, 1) := by decide +kernel
theorem dX9_price_19 : decode cX9_price 19 = .ok (.iload_n 3, 1) := by decide +kernel
theorem dX9_price_20 : decode cX9_price 20 = .ok (.iload_n 2, 1) := by decide +kernel
theorem dX9_price_21 : decode cX9_price 21 = .ok (.invokevirtual 107, 3) := by decide +kernel
theorem dX9_price_24 : decode cX9_price 24 = .ok (.goto 5, 3) := by decide +kernel
theorem dX9_price_27 : decode cX9_price 27 = .ok (.ldc 51, 2) := by decide +kernel
theorem dX9_price_29 : decode cX9_price 29 = .ok (.ireturn, 1) := by decide +kernel
theorem dX9_number_0 : decode cX9_number 0 = .ok (.iload_n 1, 1) := by decide +kernel
theorem dX9_number_1 : decode cX9_number 1 = .ok (.ifCond .ge 8, 3) := by decide +kernel
theorem dX9_number_4 : decode cX9_number 4 = .ok (.ldc 51, 2) := by decide +kernel
theorem dX9_number_6 : decode cX9_number 6 = .ok (.goto 24, 3) := by decide +kernel
theorem dX9_number_9 : decode cX9_number 9 = .ok (.iload_n 1, 1) := by decide +kernel
theorem dX9_number_10 : decode cX9_number 10 = .ok (.aload_n 0, 1) := by decide +kernel
theorem dX9_number_11 : decode cX9_number 11 = .ok (.getfield 7, 3) := by decide +kernel
theorem dX9_number_14 : decode cX9_number 14 = .ok (.iconst 2, 1) := by decide +kernel
theorem dX9_number_15 : decode cX9_number 15 = .ok (.iaload, 1) := by decide +kernel
theorem dX9_number_16 : decode cX9_number 16 = .ok (.if_icmp .ge 12, 3) := by decide +kernel
theorem dX9_number_19 : decode cX9_number 19 = .ok (.aload_n 0, 1) := by decide +kernel
theorem dX9_number_20 : decode cX9_number 20 = .ok (.iload_n 1, 1) := by decide +kernel
theorem dX9_number_21 : decode cX9_number 21 = .ok (.iconst 0, 1) := by decide +kernel
theorem dX9_number_22 : decode cX9_number 22 = .ok (.invokevirtual 68, 3) := by decide +kernel
theorem dX9_number_25 : decode cX9_number 25 = .ok (.goto 5, 3) := by decide +kernel
theorem dX9_number_28 : decode cX9_number 28 = .ok (.ldc 71, 2) := by decide +kernel
theorem dX9_number_30 : decode cX9_number 30 = .ok (.ireturn, 1) := by decide +kernel
theorem dX9_seenIn_0 : decode cX9_seenIn 0 = .ok (.aload_n 0, 1) := by decide +kernel
theorem dX9_seenIn_1 : decode cX9_seenIn 1 = .ok (.iload_n 1, 1) := by decide +kernel
theorem dX9_seenIn_2 : decode cX9_seenIn 2 = .ok (.invokevirtual 61, 3) := by decide +kernel
theorem dX9_seenIn_5 : decode cX9_seenIn 5 = .ok (.ifCond .eq 13, 3) := by decide +kernel
theorem dX9_seenIn_8 : decode cX9_seenIn 8 = .ok (.iload_n 2, 1) := by decide +kernel
theorem dX9_seenIn_9 : decode cX9_seenIn 9 = .ok (.iconst 0, 1) := by decide +kernel
theorem dX9_seenIn_10 : decode cX9_seenIn 10 = .ok (.bipush 11, 2) := by decide +kernel
theorem dX9_seenIn_12 : decode cX9_seenIn 12 = .ok (.invokestatic 47, 3) := by decide +kernel
theorem dX9_seenIn_15 : decode cX9_seenIn 15 = .ok (.ifCond .ne 6, 3) := by decide +kernel
theorem dX9_seenIn_18 : decode cX9_seenIn 18 = .ok (.ldc 51, 2) := by decide +kernel
theorem dX9_seenIn_20 : decode cX9_seenIn 20 = .ok (.ireturn, 1) := by decide +kernel
theorem dX9_seenIn_21 : decode cX9_seenIn 21 = .ok (.iconst 0, 1) := by decide +kernel
theorem dX9_seenIn_22 : decode cX9_seenIn 22 = .ok (.istore_n 3, 1) := by decide +kernel
theorem dX9_seenIn_23 : decode cX9_seenIn 23 = .ok (.iload_n 3, 1) := by decide +kernel
theorem dX9_seenIn_24 : decode cX9_seenIn 24 = .ok (.bipush 12, 2) := by decide +kernel
theorem dX9_seenIn_26 : decode cX9_seenIn 26 = .ok (.if_icmp .ge 46, 3) := by decide +kernel
theorem dX9_seenIn_29 : decode cX9_seenIn 29 = .ok (.aload_n 0, 1) := by decide +kernel
theorem dX9_seenIn_30 : decode cX9_seenIn 30 = .ok (.iload_n 1, 1) := by decide +kernel
theorem dX9_seenIn_31 : decode cX9_seenIn 31 = .ok (.iconst 2, 1) := by decide +kernel
theorem dX9_seenIn_32 : decode cX9_seenIn 32 = .ok (.invokevirtual 36, 3) := by decide +kernel
theorem dX9_seenIn_35 : decode cX9_seenIn 35 = .ok (.iload_n 3, 1) := by decide +kernel
theorem dX9_seenIn_36 : decode cX9_seenIn 36 = .ok (.aload_n 0, 1) := by decide +kernel
theorem dX9_seenIn_37 : decode cX9_seenIn 37 = .ok (.iload_n 1, 1) := by decide +kernel
theorem dX9_seenIn_38 : decode cX9_seenIn 38 = .ok (.iconst 3, 1) := by decide +kernel
theorem dX9_seenIn_39 : decode cX9_seenIn 39 = .ok (.invokevirtual 36, 3) := by decide +kernel
theorem dX9_seenIn_42 : decode cX9_seenIn 42 = .ok (.imul, 1) := by decide +kernel
theorem dX9_seenIn_43 : decode cX9_seenIn 43 = .ok (.iadd, 1) := by decide +kernel
theorem dX9_seenIn_44 : decode cX9_seenIn 44 = .ok (.bipush 12, 2) := by decide +kernel
theorem dX9_seenIn_46 : decode cX9_seenIn 46 = .ok (.irem, 1) := by decide +kernel
theorem dX9_seenIn_47 : decode cX9_seenIn 47 = .ok (.istore 4, 2) := by decide +kernel
theorem dX9_seenIn_49 : decode cX9_seenIn 49 = .ok (.aload_n 0, 1) := by decide +kernel
theorem dX9_seenIn_50 : decode cX9_seenIn 50 = .ok (.iload_n 1, 1) := by decide +kernel
theorem dX9_seenIn_51 : decode cX9_seenIn 51 = .ok (.iload 4, 2) := by decide +kernel
theorem dX9_seenIn_53 : decode cX9_seenIn 53 = .ok (.invokevirtual 44, 3) := by decide +kernel
theorem dX9_seenIn_56 : decode cX9_seenIn 56 = .ok (.iload_n 2, 1) := by decide +kernel
theorem dX9_seenIn_57 : decode cX9_seenIn 57 = .ok (.ishr, 1) := by decide +kernel
theorem dX9_seenIn_58 : decode cX9_seenIn 58 = .ok (.iconst 1, 1) := by decide +kernel
theorem dX9_seenIn_59 : decode cX9_seenIn 59 = .ok (.iand, 1) := by decide +kernel
theorem dX9_seenIn_60 : decode cX9_seenIn 60 = .ok (.iconst 1, 1) := by decide +kernel
theorem dX9_seenIn_61 : decode cX9_seenIn 61 = .ok (.if_icmp .ne 5, 3) := by decide +kernel
theorem dX9_seenIn_64 : decode cX9_seenIn 64 = .ok (.iload_n 3, 1) := by decide +kernel
theorem dX9_seenIn_65 : decode cX9_seenIn 65 = .ok (.ireturn, 1) := by decide +kernel
theorem dX9_seenIn_66 : decode cX9_seenIn 66 = .ok (.iinc 3 1, 3) := by decide +kernel
theorem dX9_seenIn_69 : decode cX9_seenIn 69 = .ok (.goto (-46), 3) := by decide +kernel
theorem dX9_seenIn_72 : decode cX9_seenIn 72 = .ok (.ldc 71, 2) := by decide +kernel
theorem dX9_seenIn_74 : decode cX9_seenIn 74 = .ok (.ireturn, 1) := by decide +kernel
theorem dX9_would_0 : decode cX9_would 0 = .ok (.aload_n 0, 1) := by decide +kernel
theorem dX9_would_1 : decode cX9_would 1 = .ok (.iload_n 1, 1) := by decide +kernel
theorem dX9_would_2 : decode cX9_would 2 = .ok (.invokevirtual 61, 3) := by decide +kernel
theorem dX9_would_5 : decode cX9_would 5 = .ok (.ifCond .eq 14, 3) := by decide +kernel
theorem dX9_would_8 : decode cX9_would 8 = .ok (.iload_n 2, 1) := by decide +kernel
theorem dX9_would_9 : decode cX9_would 9 = .ok (.iconst 0, 1) := by decide +kernel
theorem dX9_would_10 : decode cX9_would 10 = .ok (.sipush 300, 3) := by decide +kernel
theorem dX9_would_13 : decode cX9_would 13 = .ok (.invokestatic 47, 3) := by decide +kernel
theorem dX9_would_16 : decode cX9_would 16 = .ok (.ifCond .ne 6, 3) := by decide +kernel
theorem dX9_would_19 : decode cX9_would 19 = .ok (.ldc 51, 2) := by decide +kernel
