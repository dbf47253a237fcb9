theorem dX0_init_0 : decode cX0_init 0 = .ok (.aload_n 0, 1) := by decide +kernel
theorem dX0_init_1 : decode cX0_init 1 = .ok (.invokespecial 3, 3) := by decide +kernel
theorem dX0_init_4 : decode cX0_init 4 = .ok (.aload_n 0, 1) := by decide +kernel
theorem dX0_init_5 : decode cX0_init 5 = .ok (.new 9, 3) := by decide +kernel
theorem dX0_init_8 : decode cX0_init 8 = .ok (.dup, 1) := by decide +kernel
theorem dX0_init_9 : decode cX0_init 9 = .ok (.invokespecial 11, 3) := by decide +kernel
theorem dX0_init_12 : decode cX0_init 12 = .ok (.putfield 12, 3) := by decide +kernel
theorem dX0_init_15 : decode cX0_init 15 = .ok (.aload_n 0, 1) := by decide +kernel
theorem dX0_init_16 : decode cX0_init 16 = .ok (.new 18, 3) := by decide +kernel
theorem dX0_init_19 : decode cX0_init 19 = .ok (.dup, 1) := by decide +kernel
theorem dX0_init_20 : decode cX0_init 20 = .ok (.invokespecial 20, 3) := by decide +kernel
theorem dX0_init_23 : decode cX0_init 23 = .ok (.putfield 21, 3) := by decide +kernel
theorem dX0_init_26 : decode cX0_init 26 = .ok (.aload_n 0, 1) := by decide +kernel
theorem dX0_init_27 : decode cX0_init 27 = .ok (.new 25, 3) := by decide +kernel
theorem dX0_init_30 : decode cX0_init 30 = .ok (.dup, 1) := by decide +kernel
theorem dX0_init_31 : decode cX0_init 31 = .ok (.invokespecial 27, 3) := by decide +kernel
theorem dX0_init_34 : decode cX0_init 34 = .ok (.putfield 28, 3) := by decide +kernel
theorem dX0_init_37 : decode cX0_init 37 = .ok (.aload_n 0, 1) := by decide +kernel
theorem dX0_init_38 : decode cX0_init 38 = .ok (.bipush 40, 2) := by decide +kernel
theorem dX0_init_40 : decode cX0_init 40 = .ok (.putfield 32, 3) := by decide +kernel
theorem dX0_init_43 : decode cX0_init 43 = .ok (.aload_n 0, 1) := by decide +kernel
theorem dX0_init_44 : decode cX0_init 44 = .ok (.bipush 10, 2) := by decide +kernel
theorem dX0_init_46 : decode cX0_init 46 = .ok (.putfield 36, 3) := by decide +kernel
theorem dX0_init_49 : decode cX0_init 49 = .ok (.aload_n 0, 1) := by decide +kernel
theorem dX0_init_50 : decode cX0_init 50 = .ok (.iconst (-1), 1) := by decide +kernel
theorem dX0_init_51 : decode cX0_init 51 = .ok (.putfield 39, 3) := by decide +kernel
theorem dX0_init_54 : decode cX0_init 54 = .ok (.return_, 1) := by decide +kernel
theorem dX0_copyFrom_0 : decode cX0_copyFrom 0 = .ok (.aload_n 0, 1) := by decide +kernel
theorem dX0_copyFrom_1 : decode cX0_copyFrom 1 = .ok (.getfield 12, 3) := by decide +kernel
theorem dX0_copyFrom_4 : decode cX0_copyFrom 4 = .ok (.aload_n 1, 1) := by decide +kernel
theorem dX0_copyFrom_5 : decode cX0_copyFrom 5 = .ok (.getfield 12, 3) := by decide +kernel
theorem dX0_copyFrom_8 : decode cX0_copyFrom 8 = .ok (.invokevirtual 42, 3) := by decide +kernel
theorem dX0_copyFrom_11 : decode cX0_copyFrom 11 = .ok (.aload_n 0, 1) := by decide +kernel
theorem dX0_copyFrom_12 : decode cX0_copyFrom 12 = .ok (.getfield 21, 3) := by decide +kernel
theorem dX0_copyFrom_15 : decode cX0_copyFrom 15 = .ok (.aload_n 1, 1) := by decide +kernel
theorem dX0_copyFrom_16 : decode cX0_copyFrom 16 = .ok (.getfield 21, 3) := by decide +kernel
theorem dX0_copyFrom_19 : decode cX0_copyFrom 19 = .ok (.invokevirtual 46, 3) := by decide +kernel
theorem dX0_copyFrom_22 : decode cX0_copyFrom 22 = .ok (.aload_n 0, 1) := by decide +kernel
theorem dX0_copyFrom_23 : decode cX0_copyFrom 23 = .ok (.getfield 28, 3) := by decide +kernel
theorem dX0_copyFrom_26 : decode cX0_copyFrom 26 = .ok (.aload_n 1, 1) := by decide +kernel
theorem dX0_copyFrom_27 : decode cX0_copyFrom 27 = .ok (.getfield 28, 3) := by decide +kernel
theorem dX0_copyFrom_30 : decode cX0_copyFrom 30 = .ok (.invokevirtual 49, 3) := by decide +kernel
theorem dX0_copyFrom_33 : decode cX0_copyFrom 33 = .ok (.aload_n 0, 1) := by decide +kernel
theorem dX0_copyFrom_34 : decode cX0_copyFrom 34 = .ok (.aload_n 1, 1) := by decide +kernel
theorem dX0_copyFrom_35 : decode cX0_copyFrom 35 = .ok (.getfield 32, 3) := by decide +kernel
theorem dX0_copyFrom_38 : decode cX0_copyFrom 38 = .ok (.putfield 32, 3) := by decide +kernel
theorem dX0_copyFrom_41 : decode cX0_copyFrom 41 = .ok (.aload_n 0, 1) := by decide +kernel
theorem dX0_copyFrom_42 : decode cX0_copyFrom 42 = .ok (.aload_n 1, 1) := by decide +kernel
theorem dX0_copyFrom_43 : decode cX0_copyFrom 43 = .ok (.getfield 36, 3) := by decide +kernel
theorem dX0_copyFrom_46 : decode cX0_copyFrom 46 = .ok (.putfield 36, 3) := by decide +kernel
theorem dX0_copyFrom_49 : decode cX0_copyFrom 49 = .ok (.aload_n 0, 1) := by decide +kernel
theorem dX0_copyFrom_50 : decode cX0_copyFrom 50 = .ok (.aload_n 1, 1) := by decide +kernel
theorem dX0_copyFrom_51 : decode cX0_copyFrom 51 = .ok (.getfield 52, 3) := by decide +kernel
theorem dX0_copyFrom_54 : decode cX0_copyFrom 54 = .ok (.putfield 52, 3) := by decide +kernel
theorem dX0_copyFrom_57 : decode cX0_copyFrom 57 = .ok (.aload_n 0, 1) := by decide +kernel
theorem dX0_copyFrom_58 : decode cX0_copyFrom 58 = .ok (.aload_n 1, 1) := by decide +kernel
theorem dX0_copyFrom_59 : decode cX0_copyFrom 59 = .ok (.getfield 39, 3) := by decide +kernel
theorem dX0_copyFrom_62 : decode cX0_copyFrom 62 = .ok (.putfield 39, 3) := by decide +kernel
theorem dX0_copyFrom_65 : decode cX0_copyFrom 65 = .ok (.aload_n 0, 1) := by decide +kernel
theorem dX0_copyFrom_66 : decode cX0_copyFrom 66 = .ok (.aload_n 1, 1) := by decide +kernel
theorem dX0_copyFrom_67 : decode cX0_copyFrom 67 = .ok (.getfield 55, 3) := by decide +kernel
theorem dX0_copyFrom_70 : decode cX0_copyFrom 70 = .ok (.putfield 55, 3) := by decide +kernel
theorem dX0_copyFrom_73 : decode cX0_copyFrom 73 = .ok (.aload_n 0, 1) := by decide +kernel
theorem dX0_copyFrom_74 : decode cX0_copyFrom 74 = .ok (.aload_n 1, 1) := by decide +kernel
theorem dX0_copyFrom_75 : decode cX0_copyFrom 75 = .ok (.getfield 58, 3) := by decide +kernel
theorem dX0_copyFrom_78 : decode cX0_copyFrom 78 = .ok (.putfield 58, 3) := by decide +kernel
theorem dX0_copyFrom_81 : decode cX0_copyFrom 81 = .ok (.aload_n 0, 1) := by decide +kernel
theorem dX0_copyFrom_82 : decode cX0_copyFrom 82 = .ok (.aload_n 1, 1) := by decide +kernel
theorem dX0_copyFrom_83 : decode cX0_copyFrom 83 = .ok (.getfield 61, 3) := by decide +kernel
theorem dX0_copyFrom_86 : decode cX0_copyFrom 86 = .ok (.putfield 61, 3) := by decide +kernel
theorem dX0_copyFrom_89 : decode cX0_copyFrom 89 = .ok (.return_, 1) := by decide +kernel
theorem dX0_addPerson_0 : decode cX0_addPerson 0 = .ok (.iload_n 1, 1) := by decide +kernel
theorem dX0_addPerson_1 : decode cX0_addPerson 1 = .ok (.iconst 0, 1) := by decide +kernel
theorem dX0_addPerson_2 : decode cX0_addPerson 2 = .ok (.iconst 3, 1) := by decide +kernel
theorem dX0_addPerson_3 : decode cX0_addPerson 3 = .ok (.invokestatic 64, 3) := by decide +kernel
theorem dX0_addPerson_6 : decode cX0_addPerson 6 = .ok (.ifCond .eq 12, 3) := by decide +kernel
theorem dX0_addPerson_9 : decode cX0_addPerson 9 = .ok (.iload_n 2, 1) := by decide +kernel
theorem dX0_addPerson_10 : decode cX0_addPerson 10 = .ok (.iconst 0, 1) := by decide +kernel
theorem dX0_addPerson_11 : decode cX0_addPerson 11 = .ok (.iconst 5, 1) := by decide +kernel
theorem dX0_addPerson_12 : decode cX0_addPerson 12 = .ok (.invokestatic 64, 3) := by decide +kernel
theorem dX0_addPerson_15 : decode cX0_addPerson 15 = .ok (.ifCond .ne 6, 3) := by decide +kernel
theorem dX0_addPerson_18 : decode cX0_addPerson 18 = .ok (.ldc 68, 2) := by decide +kernel
theorem dX0_addPerson_20 : decode cX0_addPerson 20 = .ok (.ireturn, 1) := by decide +kernel
theorem dX0_addPerson_21 : decode cX0_addPerson 21 = .ok (.aload_n 0, 1) := by decide +kernel
theorem dX0_addPerson_22 : decode cX0_addPerson 22 = .ok (.getfield 12, 3) := by decide +kernel
theorem dX0_addPerson_25 : decode cX0_addPerson 25 = .ok (.iload_n 1, 1) := by decide +kernel
theorem dX0_addPerson_26 : decode cX0_addPerson 26 = .ok (.iload_n 2, 1) := by decide +kernel
theorem dX0_addPerson_27 : decode cX0_addPerson 27 = .ok (.invokevirtual 69, 3) := by decide +kernel
theorem dX0_addPerson_30 : decode cX0_addPerson 30 = .ok (.ifCond .eq 6, 3) := by decide +kernel
theorem dX0_addPerson_33 : decode cX0_addPerson 33 = .ok (.ldc 73, 2) := by decide +kernel
theorem dX0_addPerson_35 : decode cX0_addPerson 35 = .ok (.ireturn, 1) := by decide +kernel
theorem dX0_addPerson_36 : decode cX0_addPerson 36 = .ok (.aload_n 0, 1) := by decide +kernel
theorem dX0_addPerson_37 : decode cX0_addPerson 37 = .ok (.getfield 12, 3) := by decide +kernel
theorem dX0_addPerson_40 : decode cX0_addPerson 40 = .ok (.getfield 74, 3) := by decide +kernel
theorem dX0_addPerson_43 : decode cX0_addPerson 43 = .ok (.bipush 6, 2) := by decide +kernel
theorem dX0_addPerson_45 : decode cX0_addPerson 45 = .ok (.if_icmp .lt 6, 3) := by decide +kernel
theorem dX0_addPerson_48 : decode cX0_addPerson 48 = .ok (.ldc 77, 2) := by decide +kernel
theorem dX0_addPerson_50 : decode cX0_addPerson 50 = .ok (.ireturn, 1) := by decide +kernel
theorem dX0_addPerson_51 : decode cX0_addPerson 51 = .ok (.aload_n 0, 1) := by decide +kernel
theorem dX0_addPerson_52 : decode cX0_addPerson 52 = .ok (.getfield 12, 3) := by decide +kernel
theorem dX0_addPerson_55 : decode cX0_addPerson 55 = .ok (.getfield 78, 3) := by decide +kernel
theorem dX0_addPerson_58 : decode cX0_addPerson 58 = .ok (.aload_n 0, 1) := by decide +kernel
theorem dX0_addPerson_59 : decode cX0_addPerson 59 = .ok (.getfield 12, 3) := by decide +kernel
theorem dX0_addPerson_62 : decode cX0_addPerson 62 = .ok (.getfield 74, 3) := by decide +kernel
theorem dX0_addPerson_65 : decode cX0_addPerson 65 = .ok (.iload_n 1, 1) := by decide +kernel
theorem dX0_addPerson_66 : decode cX0_addPerson 66 = .ok (.iastore, 1) := by decide +kernel
theorem dX0_addPerson_67 : decode cX0_addPerson 67 = .ok (.aload_n 0, 1) := by decide +kernel
theorem dX0_addPerson_68 : decode cX0_addPerson 68 = .ok (.getfield 12, 3) := by decide +kernel
theorem dX0_addPerson_71 : decode cX0_addPerson 71 = .ok (.getfield 82, 3) := by decide +kernel
theorem dX0_addPerson_74 : decode cX0_addPerson 74 = .ok (.aload_n 0, 1) := by decide +kernel
theorem dX0_addPerson_75 : decode cX0_addPerson 75 = .ok (.getfield 12, 3) := by decide +kernel
theorem dX0_addPerson_78 : decode cX0_addPerson 78 = .ok (.getfield 74, 3) := by decide +kernel
theorem dX0_addPerson_81 : decode cX0_addPerson 81 = .ok (.iload_n 2, 1) := by decide +kernel
theorem dX0_addPerson_82 : decode cX0_addPerson 82 = .ok (.iastore, 1) := by decide +kernel
theorem dX0_addPerson_83 : decode cX0_addPerson 83 = .ok (.aload_n 0, 1) := by decide +kernel
theorem dX0_addPerson_84 : decode cX0_addPerson 84 = .ok (.getfield 12, 3) := by decide +kernel
theorem dX0_addPerson_87 : decode cX0_addPerson 87 = .ok (.dup, 1) := by decide +kernel
theorem dX0_addPerson_88 : decode cX0_addPerson 88 = .ok (.getfield 74, 3) := by decide +kernel
theorem dX0_addPerson_91 : decode cX0_addPerson 91 = .ok (.iconst 1, 1) := by decide +kernel
theorem dX0_addPerson_92 : decode cX0_addPerson 92 = .ok (.iadd, 1) := by decide +kernel
theorem dX0_addPerson_93 : decode cX0_addPerson 93 = .ok (.putfield 74, 3) := by decide +kernel
theorem dX0_addPerson_96 : decode cX0_addPerson 96 = .ok (.aload_n 0, 1) := by decide +kernel
theorem dX0_addPerson_97 : decode cX0_addPerson 97 = .ok (.getfield 12, 3) := by decide +kernel
theorem dX0_addPerson_100 : decode cX0_addPerson 100 = .ok (.getfield 74, 3) := by decide +kernel
theorem dX0_addPerson_103 : decode cX0_addPerson 103 = .ok (.iconst 1, 1) := by decide +kernel
theorem dX0_addPerson_104 : decode cX0_addPerson 104 = .ok (.isub, 1) := by decide +kernel
theorem dX0_addPerson_105 : decode cX0_addPerson 105 = .ok (.ireturn, 1) := by decide +kernel
theorem dX0_turnPerson_0 : decode cX0_turnPerson 0 = .ok (.aload_n 0, 1) := by decide +kernel
theorem dX0_turnPerson_1 : decode cX0_turnPerson 1 = .ok (.getfield 12, 3) := by decide +kernel
theorem dX0_turnPerson_4 : decode cX0_turnPerson 4 = .ok (.iload_n 1, 1) := by decide +kernel
theorem dX0_turnPerson_5 : decode cX0_turnPerson 5 = .ok (.invokevirtual 85, 3) := by decide +kernel
theorem dX0_turnPerson_8 : decode cX0_turnPerson 8 = .ok (.ifCond .eq 23, 3) := by decide +kernel
theorem dX0_turnPerson_11 : decode cX0_turnPerson 11 = .ok (.iload_n 2, 1) := by decide +kernel
theorem dX0_turnPerson_12 : decode cX0_turnPerson 12 = .ok (.iconst 0, 1) := by decide +kernel
theorem dX0_turnPerson_13 : decode cX0_turnPerson 13 = .ok (.bipush 11, 2) := by decide +kernel
theorem dX0_turnPerson_15 : decode cX0_turnPerson 15 = .ok (.invokestatic 64, 3) := by decide +kernel
theorem dX0_turnPerson_18 : decode cX0_turnPerson 18 = .ok (.ifCond .eq 13, 3) := by decide +kernel
theorem dX0_turnPerson_21 : decode cX0_turnPerson 21 = .ok (.iload_n 3, 1) := by decide +kernel
theorem dX0_turnPerson_22 : decode cX0_turnPerson 22 = .ok (.iconst 0, 1) := by decide +kernel
theorem dX0_turnPerson_23 : decode cX0_turnPerson 23 = .ok (.bipush 11, 2) := by decide +kernel
theorem dX0_turnPerson_25 : decode cX0_turnPerson 25 = .ok (.invokestatic 64, 3) := by decide +kernel
theorem dX0_turnPerson_28 : decode cX0_turnPerson 28 = .ok (.ifCond .ne 6, 3) := by decide +kernel
theorem dX0_turnPerson_31 : decode cX0_turnPerson 31 = .ok (.ldc 68, 2) := by decide +kernel
theorem dX0_turnPerson_33 : decode cX0_turnPerson 33 = .ok (.ireturn, 1) := by decide +kernel
theorem dX0_turnPerson_34 : decode cX0_turnPerson 34 = .ok (.aload_n 0, 1) := by decide +kernel
theorem dX0_turnPerson_35 : decode cX0_turnPerson 35 = .ok (.getfield 12, 3) := by decide +kernel
theorem dX0_turnPerson_38 : decode cX0_turnPerson 38 = .ok (.getfield 89, 3) := by decide +kernel
theorem dX0_turnPerson_41 : decode cX0_turnPerson 41 = .ok (.iload_n 1, 1) := by decide +kernel
theorem dX0_turnPerson_42 : decode cX0_turnPerson 42 = .ok (.iload_n 2, 1) := by decide +kernel
theorem dX0_turnPerson_43 : decode cX0_turnPerson 43 = .ok (.iastore, 1) := by decide +kernel
theorem dX0_turnPerson_44 : decode cX0_turnPerson 44 = .ok (.aload_n 0, 1) := by decide +kernel
theorem dX0_turnPerson_45 : decode cX0_turnPerson 45 = .ok (.getfield 12, 3) := by decide +kernel
theorem dX0_turnPerson_48 : decode cX0_turnPerson 48 = .ok (.getfield 92, 3) := by decide +kernel
theorem dX0_turnPerson_51 : decode cX0_turnPerson 51 = .ok (.iload_n 1, 1) := by decide +kernel
theorem dX0_turnPerson_52 : decode cX0_turnPerson 52 = .ok (.iload_n 3, 1) := by decide +kernel
theorem dX0_turnPerson_53 : decode cX0_turnPerson 53 = .ok (.iastore, 1) := by decide +kernel
theorem dX0_turnPerson_54 : decode cX0_turnPerson 54 = .ok (.aload_n 0, 1) := by decide +kernel
theorem dX0_turnPerson_55 : decode cX0_turnPerson 55 = .ok (.getfield 12, 3) := by decide +kernel
theorem dX0_turnPerson_58 : decode cX0_turnPerson 58 = .ok (.iload_n 1, 1) := by decide +kernel
theorem dX0_turnPerson_59 : decode cX0_turnPerson 59 = .ok (.iconst 0, 1) := by decide +kernel
theorem dX0_turnPerson_60 : decode cX0_turnPerson 60 = .ok (.invokevirtual 95, 3) := by decide +kernel
theorem dX0_turnPerson_63 : decode cX0_turnPerson 63 = .ok (.ireturn, 1) := by decide +kernel
theorem dX0_addPaper_0 : decode cX0_addPaper 0 = .ok (.iload_n 1, 1) := by decide +kernel
theorem dX0_addPaper_1 : decode cX0_addPaper 1 = .ok (.iconst 1, 1) := by decide +kernel
theorem dX0_addPaper_2 : decode cX0_addPaper 2 = .ok (.bipush 20, 2) := by decide +kernel
theorem dX0_addPaper_4 : decode cX0_addPaper 4 = .ok (.invokestatic 64, 3) := by decide +kernel
theorem dX0_addPaper_7 : decode cX0_addPaper 7 = .ok (.ifCond .eq 14, 3) := by decide +kernel
theorem dX0_addPaper_10 : decode cX0_addPaper 10 = .ok (.iload_n 2, 1) := by decide +kernel
theorem dX0_addPaper_11 : decode cX0_addPaper 11 = .ok (.iconst 1, 1) := by decide +kernel
theorem dX0_addPaper_12 : decode cX0_addPaper 12 = .ok (.sipush 299, 3) := by decide +kernel
theorem dX0_addPaper_15 : decode cX0_addPaper 15 = .ok (.invokestatic 64, 3) := by decide +kernel
theorem dX0_addPaper_18 : decode cX0_addPaper 18 = .ok (.ifCond .ne 6, 3) := by decide +kernel
theorem dX0_addPaper_21 : decode cX0_addPaper 21 = .ok (.ldc 68, 2) := by decide +kernel
theorem dX0_addPaper_23 : decode cX0_addPaper 23 = .ok (.ireturn, 1) := by decide +kernel
theorem dX0_addPaper_24 : decode cX0_addPaper 24 = .ok (.aload_n 0, 1) := by decide +kernel
theorem dX0_addPaper_25 : decode cX0_addPaper 25 = .ok (.getfield 28, 3) := by decide +kernel
theorem dX0_addPaper_28 : decode cX0_addPaper 28 = .ok (.getfield 99, 3) := by decide +kernel
theorem dX0_addPaper_31 : decode cX0_addPaper 31 = .ok (.iconst 4, 1) := by decide +kernel
theorem dX0_addPaper_32 : decode cX0_addPaper 32 = .ok (.if_icmp .lt 6, 3) := by decide +kernel
theorem dX0_addPaper_35 : decode cX0_addPaper 35 = .ok (.ldc 77, 2) := by decide +kernel
theorem dX0_addPaper_37 : decode cX0_addPaper 37 = .ok (.ireturn, 1) := by decide +kernel
theorem dX0_addPaper_38 : decode cX0_addPaper 38 = .ok (.aload_n 0, 1) := by decide +kernel
theorem dX0_addPaper_39 : decode cX0_addPaper 39 = .ok (.getfield 28, 3) := by decide +kernel
theorem dX0_addPaper_42 : decode cX0_addPaper 42 = .ok (.getfield 100, 3) := by decide +kernel
theorem dX0_addPaper_45 : decode cX0_addPaper 45 = .ok (.aload_n 0, 1) := by decide +kernel
theorem dX0_addPaper_46 : decode cX0_addPaper 46 = .ok (.getfield 28, 3) := by decide +kernel
theorem dX0_addPaper_49 : decode cX0_addPaper 49 = .ok (.getfield 99, 3) := by decide +kernel
theorem dX0_addPaper_52 : decode cX0_addPaper 52 = .ok (.iload_n 1, 1) := by decide +kernel
theorem dX0_addPaper_53 : decode cX0_addPaper 53 = .ok (.iastore, 1) := by decide +kernel
theorem dX0_addPaper_54 : decode cX0_addPaper 54 = .ok (.aload_n 0, 1) := by decide +kernel
theorem dX0_addPaper_55 : decode cX0_addPaper 55 = .ok (.getfield 28, 3) := by decide +kernel
theorem dX0_addPaper_58 : decode cX0_addPaper 58 = .ok (.getfield 103, 3) := by decide +kernel
theorem dX0_addPaper_61 : decode cX0_addPaper 61 = .ok (.aload_n 0, 1) := by decide +kernel
theorem dX0_addPaper_62 : decode cX0_addPaper 62 = .ok (.getfield 28, 3) := by decide +kernel
theorem dX0_addPaper_65 : decode cX0_addPaper 65 = .ok (.getfield 99, 3) := by decide +kernel
theorem dX0_addPaper_68 : decode cX0_addPaper 68 = .ok (.iload_n 2, 1) := by decide +kernel
theorem dX0_addPaper_69 : decode cX0_addPaper 69 = .ok (.iastore, 1) := by decide +kernel
theorem dX0_addPaper_70 : decode cX0_addPaper 70 = .ok (.aload_n 0, 1) := by decide +kernel
theorem dX0_addPaper_71 : decode cX0_addPaper 71 = .ok (.getfield 28, 3) := by decide +kernel
theorem dX0_addPaper_74 : decode cX0_addPaper 74 = .ok (.dup, 1) := by decide +kernel
theorem dX0_addPaper_75 : decode cX0_addPaper 75 = .ok (.getfield 99, 3) := by decide +kernel
theorem dX0_addPaper_78 : decode cX0_addPaper 78 = .ok (.iconst 1, 1) := by decide +kernel
theorem dX0_addPaper_79 : decode cX0_addPaper 79 = .ok (.iadd, 1) := by decide +kernel
theorem dX0_addPaper_80 : decode cX0_addPaper 80 = .ok (.putfield 99, 3) := by decide +kernel
theorem dX0_addPaper_83 : decode cX0_addPaper 83 = .ok (.aload_n 0, 1) := by decide +kernel
theorem dX0_addPaper_84 : decode cX0_addPaper 84 = .ok (.getfield 28, 3) := by decide +kernel
theorem dX0_addPaper_87 : decode cX0_addPaper 87 = .ok (.getfield 99, 3) := by decide +kernel
theorem dX0_addPaper_90 : decode cX0_addPaper 90 = .ok (.iconst 1, 1) := by decide +kernel
theorem dX0_addPaper_91 : decode cX0_addPaper 91 = .ok (.isub, 1) := by decide +kernel
theorem dX0_addPaper_92 : decode cX0_addPaper 92 = .ok (.ireturn, 1) := by decide +kernel
theorem dX0_lookAt_0 : decode cX0_lookAt 0 = .ok (.iload_n 1, 1) := by decide +kernel
theorem dX0_lookAt_1 : decode cX0_lookAt 1 = .ok (.iconst (-1), 1) := by decide +kernel
theorem dX0_lookAt_2 : decode cX0_lookAt 2 = .ok (.if_icmp .eq 17, 3) := by decide +kernel
theorem dX0_lookAt_5 : decode cX0_lookAt 5 = .ok (.aload_n 0, 1) := by decide +kernel
theorem dX0_lookAt_6 : decode cX0_lookAt 6 = .ok (.getfield 12, 3) := by decide +kernel
theorem dX0_lookAt_9 : decode cX0_lookAt 9 = .ok (.iload_n 1, 1) := by decide +kernel
theorem dX0_lookAt_10 : decode cX0_lookAt 10 = .ok (.invokevirtual 85, 3) := by decide +kernel
theorem dX0_lookAt_13 : decode cX0_lookAt 13 = .ok (.ifCond .ne 6, 3) := by decide +kernel
theorem dX0_lookAt_16 : decode cX0_lookAt 16 = .ok (.ldc 68, 2) := by decide +kernel
theorem dX0_lookAt_18 : decode cX0_lookAt 18 = .ok (.ireturn, 1) := by decide +kernel
theorem dX0_lookAt_19 : decode cX0_lookAt 19 = .ok (.aload_n 0, 1) := by decide +kernel
theorem dX0_lookAt_20 : decode cX0_lookAt 20 = .ok (.iload_n 1, 1) := by decide +kernel
theorem dX0_lookAt_21 : decode cX0_lookAt 21 = .ok (.putfield 39, 3) := by decide +kernel
theorem dX0_lookAt_24 : decode cX0_lookAt 24 = .ok (.iload_n 1, 1) := by decide +kernel
theorem dX0_lookAt_25 : decode cX0_lookAt 25 = .ok (.iconst (-1), 1) := by decide +kernel
theorem dX0_lookAt_26 : decode cX0_lookAt 26 = .ok (.if_icmp .ne 7, 3) := by decide +kernel
theorem dX0_lookAt_29 : decode cX0_lookAt 29 = .ok (.iconst 0, 1) := by decide +kernel
theorem dX0_lookAt_30 : decode cX0_lookAt 30 = .ok (.goto 12, 3) := by decide +kernel
theorem dX0_lookAt_33 : decode cX0_lookAt 33 = .ok (.aload_n 0, 1) := by decide +kernel
theorem dX0_lookAt_34 : decode cX0_lookAt 34 = .ok (.getfield 12, 3) := by decide +kernel
theorem dX0_lookAt_37 : decode cX0_lookAt 37 = .ok (.iload_n 1, 1) := by decide +kernel
theorem dX0_lookAt_38 : decode cX0_lookAt 38 = .ok (.iconst 0, 1) := by decide +kernel
theorem dX0_lookAt_39 : decode cX0_lookAt 39 = .ok (.invokevirtual 95, 3) := by decide +kernel
theorem dX0_lookAt_42 : decode cX0_lookAt 42 = .ok (.ireturn, 1) := by decide +kernel
theorem dX0_beginSheet_0 : decode cX0_beginSheet 0 = .ok (.aload_n 0, 1) := by decide +kernel
theorem dX0_beginSheet_1 : decode cX0_beginSheet 1 = .ok (.getfield 12, 3) := by decide +kernel
theorem dX0_beginSheet_4 : decode cX0_beginSheet 4 = .ok (.iload_n 1, 1) := by decide +kernel
theorem dX0_beginSheet_5 : decode cX0_beginSheet 5 = .ok (.invokevirtual 85, 3) := by decide +kernel
theorem dX0_beginSheet_8 : decode cX0_beginSheet 8 = .ok (.ifCond .ne 6, 3) := by decide +kernel
theorem dX0_beginSheet_11 : decode cX0_beginSheet 11 = .ok (.ldc 68, 2) := by decide +kernel
theorem dX0_beginSheet_13 : decode cX0_beginSheet 13 = .ok (.ireturn, 1) := by decide +kernel
theorem dX0_beginSheet_14 : decode cX0_beginSheet 14 = .ok (.aload_n 0, 1) := by decide +kernel
theorem dX0_beginSheet_15 : decode cX0_beginSheet 15 = .ok (.getfield 21, 3) := by decide +kernel
theorem dX0_beginSheet_18 : decode cX0_beginSheet 18 = .ok (.getfield 106, 3) := by decide +kernel
theorem dX0_beginSheet_21 : decode cX0_beginSheet 21 = .ok (.bipush 10, 2) := by decide +kernel
theorem dX0_beginSheet_23 : decode cX0_beginSheet 23 = .ok (.if_icmp .lt 6, 3) := by decide +kernel
theorem dX0_beginSheet_26 : decode cX0_beginSheet 26 = .ok (.ldc 77, 2) := by decide +kernel
theorem dX0_beginSheet_28 : decode cX0_beginSheet 28 = .ok (.ireturn, 1) := by decide +kernel
theorem dX0_beginSheet_29 : decode cX0_beginSheet 29 = .ok (.aload_n 0, 1) := by decide +kernel
theorem dX0_beginSheet_30 : decode cX0_beginSheet 30 = .ok (.getfield 21, 3) := by decide +kernel
theorem dX0_beginSheet_33 : decode cX0_beginSheet 33 = .ok (.iload_n 1, 1) := by decide +kernel
theorem dX0_beginSheet_34 : decode cX0_beginSheet 34 = .ok (.invokevirtual 107, 3) := by decide +kernel
theorem dX0_beginSheet_37 : decode cX0_beginSheet 37 = .ok (.ireturn, 1) := by decide +kernel
theorem dX0_drawFeature_0 : decode cX0_drawFeature 0 = .ok (.aload_n 0, 1) := by decide +kernel
theorem dX0_drawFeature_1 : decode cX0_drawFeature 1 = .ok (.getfield 21, 3) := by decide +kernel
theorem dX0_drawFeature_4 : decode cX0_drawFeature 4 = .ok (.iload_n 1, 1) := by decide +kernel
theorem dX0_drawFeature_5 : decode cX0_drawFeature 5 = .ok (.invokevirtual 111, 3) := by decide +kernel
theorem dX0_drawFeature_8 : decode cX0_drawFeature 8 = .ok (.istore_n 3, 1) := by decide +kernel
theorem dX0_drawFeature_9 : decode cX0_drawFeature 9 = .ok (.iload_n 3, 1) := by decide +kernel
theorem dX0_drawFeature_10 : decode cX0_drawFeature 10 = .ok (.iconst (-1), 1) := by decide +kernel
theorem dX0_drawFeature_11 : decode cX0_drawFeature 11 = .ok (.if_icmp .eq 13, 3) := by decide +kernel
theorem dX0_drawFeature_14 : decode cX0_drawFeature 14 = .ok (.iload_n 2, 1) := by decide +kernel
theorem dX0_drawFeature_15 : decode cX0_drawFeature 15 = .ok (.iconst 0, 1) := by decide +kernel
theorem dX0_drawFeature_16 : decode cX0_drawFeature 16 = .ok (.bipush 11, 2) := by decide +kernel
theorem dX0_drawFeature_18 : decode cX0_drawFeature 18 = .ok (.invokestatic 64, 3) := by decide +kernel
theorem dX0_drawFeature_21 : decode cX0_drawFeature 21 = .ok (.ifCond .ne 6, 3) := by decide +kernel
theorem dX0_drawFeature_24 : decode cX0_drawFeature 24 = .ok (.ldc 68, 2) := by decide +kernel
theorem dX0_drawFeature_26 : decode cX0_drawFeature 26 = .ok (.ireturn, 1) := by decide +kernel
theorem dX0_drawFeature_27 : decode cX0_drawFeature 27 = .ok (.aload_n 0, 1) := by decide +kernel
theorem dX0_drawFeature_28 : decode cX0_drawFeature 28 = .ok (.iload_n 3, 1) := by decide +kernel
theorem dX0_drawFeature_29 : decode cX0_drawFeature 29 = .ok (.invokevirtual 114, 3) := by decide +kernel
theorem dX0_drawFeature_32 : decode cX0_drawFeature 32 = .ok (.iload_n 2, 1) := by decide +kernel
theorem dX0_drawFeature_33 : decode cX0_drawFeature 33 = .ok (.invokestatic 117, 3) := by decide +kernel
theorem dX0_drawFeature_36 : decode cX0_drawFeature 36 = .ok (.ifCond .ne 6, 3) := by decide +kernel
theorem dX0_drawFeature_39 : decode cX0_drawFeature 39 = .ok (.ldc 73, 2) := by decide +kernel
theorem dX0_drawFeature_41 : decode cX0_drawFeature 41 = .ok (.ireturn, 1) := by decide +kernel
theorem dX0_drawFeature_42 : decode cX0_drawFeature 42 = .ok (.aload_n 0, 1) := by decide +kernel
theorem dX0_drawFeature_43 : decode cX0_drawFeature 43 = .ok (.getfield 55, 3) := by decide +kernel
theorem dX0_drawFeature_46 : decode cX0_drawFeature 46 = .ok (.iconst 3, 1) := by decide +kernel
theorem dX0_drawFeature_47 : decode cX0_drawFeature 47 = .ok (.if_icmp .lt 6, 3) := by decide +kernel
theorem dX0_drawFeature_50 : decode cX0_drawFeature 50 = .ok (.ldc 77, 2) := by decide +kernel
theorem dX0_drawFeature_52 : decode cX0_drawFeature 52 = .ok (.ireturn, 1) := by decide +kernel
theorem dX0_drawFeature_53 : decode cX0_drawFeature 53 = .ok (.aload_n 0, 1) := by decide +kernel
theorem dX0_drawFeature_54 : decode cX0_drawFeature 54 = .ok (.dup, 1) := by decide +kernel
theorem dX0_drawFeature_55 : decode cX0_drawFeature 55 = .ok (.getfield 55, 3) := by decide +kernel
theorem dX0_drawFeature_58 : decode cX0_drawFeature 58 = .ok (.iconst 1, 1) := by decide +kernel
theorem dX0_drawFeature_59 : decode cX0_drawFeature 59 = .ok (.iadd, 1) := by decide +kernel
theorem dX0_drawFeature_60 : decode cX0_drawFeature 60 = .ok (.putfield 55, 3) := by decide +kernel
theorem dX0_drawFeature_63 : decode cX0_drawFeature 63 = .ok (.aload_n 0, 1) := by decide +kernel
theorem dX0_drawFeature_64 : decode cX0_drawFeature 64 = .ok (.getfield 21, 3) := by decide +kernel
theorem dX0_drawFeature_67 : decode cX0_drawFeature 67 = .ok (.getfield 120, 3) := by decide +kernel
theorem dX0_drawFeature_70 : decode cX0_drawFeature 70 = .ok (.iload_n 3, 1) := by decide +kernel
theorem dX0_drawFeature_71 : decode cX0_drawFeature 71 = .ok (.dup2, 1) := by decide +kernel
theorem dX0_drawFeature_72 : decode cX0_drawFeature 72 = .ok (.iaload, 1) := by decide +kernel
theorem dX0_drawFeature_73 : decode cX0_drawFeature 73 = .ok (.iconst 1, 1) := by decide +kernel
theorem dX0_drawFeature_74 : decode cX0_drawFeature 74 = .ok (.iload_n 2, 1) := by decide +kernel
theorem dX0_drawFeature_75 : decode cX0_drawFeature 75 = .ok (.ishl, 1) := by decide +kernel
theorem dX0_drawFeature_76 : decode cX0_drawFeature 76 = .ok (.ior, 1) := by decide +kernel
theorem dX0_drawFeature_77 : decode cX0_drawFeature 77 = .ok (.iastore, 1) := by decide +kernel
theorem dX0_drawFeature_78 : decode cX0_drawFeature 78 = .ok (.aload_n 0, 1) := by decide +kernel
theorem dX0_drawFeature_79 : decode cX0_drawFeature 79 = .ok (.getfield 21, 3) := by decide +kernel
theorem dX0_drawFeature_82 : decode cX0_drawFeature 82 = .ok (.getfield 123, 3) := by decide +kernel
theorem dX0_drawFeature_85 : decode cX0_drawFeature 85 = .ok (.iload_n 3, 1) := by decide +kernel
theorem dX0_drawFeature_86 : decode cX0_drawFeature 86 = .ok (.aload_n 0, 1) := by decide +kernel
theorem dX0_drawFeature_87 : decode cX0_drawFeature 87 = .ok (.getfield 21, 3) := by decide +kernel
theorem dX0_drawFeature_90 : decode cX0_drawFeature 90 = .ok (.getfield 123, 3) := by decide +kernel
theorem dX0_drawFeature_93 : decode cX0_drawFeature 93 = .ok (.iload_n 3, 1) := by decide +kernel
theorem dX0_drawFeature_94 : decode cX0_drawFeature 94 = .ok (.iaload, 1) := by decide +kernel
theorem dX0_drawFeature_95 : decode cX0_drawFeature 95 = .ok (.aload_n 0, 1) := by decide +kernel
theorem dX0_drawFeature_96 : decode cX0_drawFeature 96 = .ok (.getfield 52, 3) := by decide +kernel
theorem dX0_drawFeature_99 : decode cX0_drawFeature 99 = .ok (.aload_n 0, 1) := by decide +kernel
theorem dX0_drawFeature_100 : decode cX0_drawFeature 100 = .ok (.getfield 36, 3) := by decide +kernel
theorem dX0_drawFeature_103 : decode cX0_drawFeature 103 = .ok (.iadd, 1) := by decide +kernel
theorem dX0_drawFeature_104 : decode cX0_drawFeature 104 = .ok (.invokestatic 126, 3) := by decide +kernel
theorem dX0_drawFeature_107 : decode cX0_drawFeature 107 = .ok (.iastore, 1) := by decide +kernel
theorem dX0_drawFeature_108 : decode cX0_drawFeature 108 = .ok (.aload_n 0, 1) := by decide +kernel
theorem dX0_drawFeature_109 : decode cX0_drawFeature 109 = .ok (.getfield 21, 3) := by decide +kernel
theorem dX0_drawFeature_112 : decode cX0_drawFeature 112 = .ok (.getfield 120, 3) := by decide +kernel
theorem dX0_drawFeature_115 : decode cX0_drawFeature 115 = .ok (.iload_n 3, 1) := by decide +kernel
theorem dX0_drawFeature_116 : decode cX0_drawFeature 116 = .ok (.iaload, 1) := by decide +kernel
theorem dX0_drawFeature_117 : decode cX0_drawFeature 117 = .ok (.invokestatic 131, 3) := by decide +kernel
theorem dX0_drawFeature_120 : decode cX0_drawFeature 120 = .ok (.ireturn, 1) := by decide +kernel
theorem dX0_tearOut_0 : decode cX0_tearOut 0 = .ok (.aload_n 0, 1) := by decide +kernel
theorem dX0_tearOut_1 : decode cX0_tearOut 1 = .ok (.getfield 21, 3) := by decide +kernel
theorem dX0_tearOut_4 : decode cX0_tearOut 4 = .ok (.iload_n 1, 1) := by decide +kernel
theorem dX0_tearOut_5 : decode cX0_tearOut 5 = .ok (.invokevirtual 111, 3) := by decide +kernel
theorem dX0_tearOut_8 : decode cX0_tearOut 8 = .ok (.istore_n 2, 1) := by decide +kernel
theorem dX0_tearOut_9 : decode cX0_tearOut 9 = .ok (.iload_n 2, 1) := by decide +kernel
theorem dX0_tearOut_10 : decode cX0_tearOut 10 = .ok (.iconst (-1), 1) := by decide +kernel
theorem dX0_tearOut_11 : decode cX0_tearOut 11 = .ok (.if_icmp .ne 6, 3) := by decide +kernel
theorem dX0_tearOut_14 : decode cX0_tearOut 14 = .ok (.ldc 68, 2) := by decide +kernel
theorem dX0_tearOut_16 : decode cX0_tearOut 16 = .ok (.ireturn, 1) := by decide +kernel
theorem dX0_tearOut_17 : decode cX0_tearOut 17 = .ok (.aload_n 0, 1) := by decide +kernel
theorem dX0_tearOut_18 : decode cX0_tearOut 18 = .ok (.getfield 21, 3) := by decide +kernel
theorem dX0_tearOut_21 : decode cX0_tearOut 21 = .ok (.iload_n 2, 1) := by decide +kernel
theorem dX0_tearOut_22 : decode cX0_tearOut 22 = .ok (.invokevirtual 136, 3) := by decide +kernel
theorem dX0_tearOut_25 : decode cX0_tearOut 25 = .ok (.aload_n 0, 1) := by decide +kernel
theorem dX0_tearOut_26 : decode cX0_tearOut 26 = .ok (.getfield 21, 3) := by decide +kernel
theorem dX0_tearOut_29 : decode cX0_tearOut 29 = .ok (.getfield 106, 3) := by decide +kernel
theorem dX0_tearOut_32 : decode cX0_tearOut 32 = .ok (.ireturn, 1) := by decide +kernel
theorem dX0_tellVerdict_0 : decode cX0_tellVerdict 0 = .ok (.aload_n 0, 1) := by decide +kernel
theorem dX0_tellVerdict_1 : decode cX0_tellVerdict 1 = .ok (.getfield 12, 3) := by decide +kernel
theorem dX0_tellVerdict_4 : decode cX0_tellVerdict 4 = .ok (.iload_n 1, 1) := by decide +kernel
theorem dX0_tellVerdict_5 : decode cX0_tellVerdict 5 = .ok (.invokevirtual 85, 3) := by decide +kernel
theorem dX0_tellVerdict_8 : decode cX0_tellVerdict 8 = .ok (.ifCond .ne 6, 3) := by decide +kernel
theorem dX0_tellVerdict_11 : decode cX0_tellVerdict 11 = .ok (.ldc 68, 2) := by decide +kernel
theorem dX0_tellVerdict_13 : decode cX0_tellVerdict 13 = .ok (.ireturn, 1) := by decide +kernel
theorem dX0_tellVerdict_14 : decode cX0_tellVerdict 14 = .ok (.aload_n 0, 1) := by decide +kernel
theorem dX0_tellVerdict_15 : decode cX0_tellVerdict 15 = .ok (.iload_n 1, 1) := by decide +kernel
theorem dX0_tellVerdict_16 : decode cX0_tellVerdict 16 = .ok (.invokevirtual 140, 3) := by decide +kernel
theorem dX0_tellVerdict_19 : decode cX0_tellVerdict 19 = .ok (.ifCond .eq 6, 3) := by decide +kernel
theorem dX0_tellVerdict_22 : decode cX0_tellVerdict 22 = .ok (.ldc 73, 2) := by decide +kernel
theorem dX0_tellVerdict_24 : decode cX0_tellVerdict 24 = .ok (.ireturn, 1) := by decide +kernel
theorem dX0_tellVerdict_25 : decode cX0_tellVerdict 25 = .ok (.aload_n 0, 1) := by decide +kernel
theorem dX0_tellVerdict_26 : decode cX0_tellVerdict 26 = .ok (.getfield 12, 3) := by decide +kernel
theorem dX0_tellVerdict_29 : decode cX0_tellVerdict 29 = .ok (.getfield 143, 3) := by decide +kernel
theorem dX0_tellVerdict_32 : decode cX0_tellVerdict 32 = .ok (.iload_n 1, 1) := by decide +kernel
theorem dX0_tellVerdict_33 : decode cX0_tellVerdict 33 = .ok (.aload_n 0, 1) := by decide +kernel
theorem dX0_tellVerdict_34 : decode cX0_tellVerdict 34 = .ok (.invokevirtual 146, 3) := by decide +kernel
theorem dX0_tellVerdict_37 : decode cX0_tellVerdict 37 = .ok (.iastore, 1) := by decide +kernel
theorem dX0_tellVerdict_38 : decode cX0_tellVerdict 38 = .ok (.aload_n 0, 1) := by decide +kernel
theorem dX0_tellVerdict_39 : decode cX0_tellVerdict 39 = .ok (.getfield 21, 3) := by decide +kernel
theorem dX0_tellVerdict_42 : decode cX0_tellVerdict 42 = .ok (.iload_n 1, 1) := by decide +kernel
theorem dX0_tellVerdict_43 : decode cX0_tellVerdict 43 = .ok (.invokevirtual 150, 3) := by decide +kernel
theorem dX0_tellVerdict_46 : decode cX0_tellVerdict 46 = .ok (.ireturn, 1) := by decide +kernel
theorem dX0_sellSheet_0 : decode cX0_sellSheet 0 = .ok (.aload_n 0, 1) := by decide +kernel
theorem dX0_sellSheet_1 : decode cX0_sellSheet 1 = .ok (.getfield 21, 3) := by decide +kernel
theorem dX0_sellSheet_4 : decode cX0_sellSheet 4 = .ok (.iload_n 1, 1) := by decide +kernel
theorem dX0_sellSheet_5 : decode cX0_sellSheet 5 = .ok (.invokevirtual 111, 3) := by decide +kernel
theorem dX0_sellSheet_8 : decode cX0_sellSheet 8 = .ok (.istore_n 3, 1) := by decide +kernel
theorem dX0_sellSheet_9 : decode cX0_sellSheet 9 = .ok (.iload_n 3, 1) := by decide +kernel
theorem dX0_sellSheet_10 : decode cX0_sellSheet 10 = .ok (.iconst (-1), 1) := by decide +kernel
theorem dX0_sellSheet_11 : decode cX0_sellSheet 11 = .ok (.if_icmp .eq 14, 3) := by decide +kernel
theorem dX0_sellSheet_14 : decode cX0_sellSheet 14 = .ok (.aload_n 0, 1) := by decide +kernel
theorem dX0_sellSheet_15 : decode cX0_sellSheet 15 = .ok (.getfield 28, 3) := by decide +kernel
theorem dX0_sellSheet_18 : decode cX0_sellSheet 18 = .ok (.iload_n 2, 1) := by decide +kernel
theorem dX0_sellSheet_19 : decode cX0_sellSheet 19 = .ok (.invokevirtual 153, 3) := by decide +kernel
theorem dX0_sellSheet_22 : decode cX0_sellSheet 22 = .ok (.ifCond .ne 6, 3) := by decide +kernel
theorem dX0_sellSheet_25 : decode cX0_sellSheet 25 = .ok (.ldc 68, 2) := by decide +kernel
theorem dX0_sellSheet_27 : decode cX0_sellSheet 27 = .ok (.ireturn, 1) := by decide +kernel
theorem dX0_sellSheet_28 : decode cX0_sellSheet 28 = .ok (.aload_n 0, 1) := by decide +kernel
theorem dX0_sellSheet_29 : decode cX0_sellSheet 29 = .ok (.iload_n 3, 1) := by decide +kernel
theorem dX0_sellSheet_30 : decode cX0_sellSheet 30 = .ok (.iload_n 2, 1) := by decide +kernel
theorem dX0_sellSheet_31 : decode cX0_sellSheet 31 = .ok (.invokevirtual 154, 3) := by decide +kernel
theorem dX0_sellSheet_34 : decode cX0_sellSheet 34 = .ok (.ifCond .ne 6, 3) := by decide +kernel
theorem dX0_sellSheet_37 : decode cX0_sellSheet 37 = .ok (.ldc 73, 2) := by decide +kernel
theorem dX0_sellSheet_39 : decode cX0_sellSheet 39 = .ok (.ireturn, 1) := by decide +kernel
theorem dX0_sellSheet_40 : decode cX0_sellSheet 40 = .ok (.aload_n 0, 1) := by decide +kernel
theorem dX0_sellSheet_41 : decode cX0_sellSheet 41 = .ok (.getfield 21, 3) := by decide +kernel
theorem dX0_sellSheet_44 : decode cX0_sellSheet 44 = .ok (.getfield 157, 3) := by decide +kernel
theorem dX0_sellSheet_47 : decode cX0_sellSheet 47 = .ok (.iload_n 3, 1) := by decide +kernel
theorem dX0_sellSheet_48 : decode cX0_sellSheet 48 = .ok (.iaload, 1) := by decide +kernel
theorem dX0_sellSheet_49 : decode cX0_sellSheet 49 = .ok (.istore 4, 2) := by decide +kernel
theorem dX0_sellSheet_51 : decode cX0_sellSheet 51 = .ok (.aload_n 0, 1) := by decide +kernel
theorem dX0_sellSheet_52 : decode cX0_sellSheet 52 = .ok (.iload_n 3, 1) := by decide +kernel
theorem dX0_sellSheet_53 : decode cX0_sellSheet 53 = .ok (.iload_n 2, 1) := by decide +kernel
theorem dX0_sellSheet_54 : decode cX0_sellSheet 54 = .ok (.invokevirtual 159, 3) := by decide +kernel
theorem dX0_sellSheet_57 : decode cX0_sellSheet 57 = .ok (.istore 5, 2) := by decide +kernel
theorem dX0_sellSheet_59 : decode cX0_sellSheet 59 = .ok (.aload_n 0, 1) := by decide +kernel
theorem dX0_sellSheet_60 : decode cX0_sellSheet 60 = .ok (.getfield 28, 3) := by decide +kernel
theorem dX0_sellSheet_63 : decode cX0_sellSheet 63 = .ok (.iload_n 2, 1) := by decide +kernel
theorem dX0_sellSheet_64 : decode cX0_sellSheet 64 = .ok (.iload 4, 2) := by decide +kernel
theorem dX0_sellSheet_66 : decode cX0_sellSheet 66 = .ok (.iload 5, 2) := by decide +kernel
theorem dX0_sellSheet_68 : decode cX0_sellSheet 68 = .ok (.aload_n 0, 1) := by decide +kernel
theorem dX0_sellSheet_69 : decode cX0_sellSheet 69 = .ok (.invokevirtual 146, 3) := by decide +kernel
theorem dX0_sellSheet_72 : decode cX0_sellSheet 72 = .ok (.invokevirtual 162, 3) := by decide +kernel
theorem dX0_sellSheet_75 : decode cX0_sellSheet 75 = .ok (.aload_n 0, 1) := by decide +kernel
theorem dX0_sellSheet_76 : decode cX0_sellSheet 76 = .ok (.getfield 12, 3) := by decide +kernel
theorem dX0_sellSheet_79 : decode cX0_sellSheet 79 = .ok (.getfield 166, 3) := by decide +kernel
theorem dX0_sellSheet_82 : decode cX0_sellSheet 82 = .ok (.iload 4, 2) := by decide +kernel
theorem dX0_sellSheet_84 : decode cX0_sellSheet 84 = .ok (.dup2, 1) := by decide +kernel
theorem dX0_sellSheet_85 : decode cX0_sellSheet 85 = .ok (.iaload, 1) := by decide +kernel
theorem dX0_sellSheet_86 : decode cX0_sellSheet 86 = .ok (.iload 5, 2) := by decide +kernel
theorem dX0_sellSheet_88 : decode cX0_sellSheet 88 = .ok (.iadd, 1) := by decide +kernel
theorem dX0_sellSheet_89 : decode cX0_sellSheet 89 = .ok (.iastore, 1) := by decide +kernel
theorem dX0_sellSheet_90 : decode cX0_sellSheet 90 = .ok (.aload_n 0, 1) := by decide +kernel
theorem dX0_sellSheet_91 : decode cX0_sellSheet 91 = .ok (.dup, 1) := by decide +kernel
theorem dX0_sellSheet_92 : decode cX0_sellSheet 92 = .ok (.getfield 61, 3) := by decide +kernel
theorem dX0_sellSheet_95 : decode cX0_sellSheet 95 = .ok (.iload 5, 2) := by decide +kernel
theorem dX0_sellSheet_97 : decode cX0_sellSheet 97 = .ok (.iadd, 1) := by decide +kernel
theorem dX0_sellSheet_98 : decode cX0_sellSheet 98 = .ok (.putfield 61, 3) := by decide +kernel
theorem dX0_sellSheet_101 : decode cX0_sellSheet 101 = .ok (.aload_n 0, 1) := by decide +kernel
theorem dX0_sellSheet_102 : decode cX0_sellSheet 102 = .ok (.dup, 1) := by decide +kernel
theorem dX0_sellSheet_103 : decode cX0_sellSheet 103 = .ok (.getfield 58, 3) := by decide +kernel
theorem dX0_sellSheet_106 : decode cX0_sellSheet 106 = .ok (.iconst 1, 1) := by decide +kernel
theorem dX0_sellSheet_107 : decode cX0_sellSheet 107 = .ok (.iadd, 1) := by decide +kernel
theorem dX0_sellSheet_108 : decode cX0_sellSheet 108 = .ok (.putfield 58, 3) := by decide +kernel
theorem dX0_sellSheet_111 : decode cX0_sellSheet 111 = .ok (.aload_n 0, 1) := by decide +kernel
theorem dX0_sellSheet_112 : decode cX0_sellSheet 112 = .ok (.getfield 21, 3) := by decide +kernel
theorem dX0_sellSheet_115 : decode cX0_sellSheet 115 = .ok (.iload_n 3, 1) := by decide +kernel
theorem dX0_sellSheet_116 : decode cX0_sellSheet 116 = .ok (.invokevirtual 136, 3) := by decide +kernel
theorem dX0_sellSheet_119 : decode cX0_sellSheet 119 = .ok (.iload 5, 2) := by decide +kernel
theorem dX0_sellSheet_121 : decode cX0_sellSheet 121 = .ok (.ireturn, 1) := by decide +kernel
theorem dX0_passMinutes_0 : decode cX0_passMinutes 0 = .ok (.iload_n 1, 1) := by decide +kernel
theorem dX0_passMinutes_1 : decode cX0_passMinutes 1 = .ok (.iconst 1, 1) := by decide +kernel
theorem dX0_passMinutes_2 : decode cX0_passMinutes 2 = .ok (.sipush 300, 3) := by decide +kernel
theorem dX0_passMinutes_5 : decode cX0_passMinutes 5 = .ok (.invokestatic 64, 3) := by decide +kernel
theorem dX0_passMinutes_8 : decode cX0_passMinutes 8 = .ok (.ifCond .ne 6, 3) := by decide +kernel
theorem dX0_passMinutes_11 : decode cX0_passMinutes 11 = .ok (.ldc 68, 2) := by decide +kernel
theorem dX0_passMinutes_13 : decode cX0_passMinutes 13 = .ok (.ireturn, 1) := by decide +kernel
theorem dX0_passMinutes_14 : decode cX0_passMinutes 14 = .ok (.aload_n 0, 1) := by decide +kernel
theorem dX0_passMinutes_15 : decode cX0_passMinutes 15 = .ok (.getfield 52, 3) := by decide +kernel
theorem dX0_passMinutes_18 : decode cX0_passMinutes 18 = .ok (.iload_n 1, 1) := by decide +kernel
theorem dX0_passMinutes_19 : decode cX0_passMinutes 19 = .ok (.iadd, 1) := by decide +kernel
theorem dX0_passMinutes_20 : decode cX0_passMinutes 20 = .ok (.sipush 9999, 3) := by decide +kernel
theorem dX0_passMinutes_23 : decode cX0_passMinutes 23 = .ok (.if_icmp .le 6, 3) := by decide +kernel
theorem dX0_passMinutes_26 : decode cX0_passMinutes 26 = .ok (.ldc 77, 2) := by decide +kernel
theorem dX0_passMinutes_28 : decode cX0_passMinutes 28 = .ok (.ireturn, 1) := by decide +kernel
theorem dX0_passMinutes_29 : decode cX0_passMinutes 29 = .ok (.aload_n 0, 1) := by decide +kernel
theorem dX0_passMinutes_30 : decode cX0_passMinutes 30 = .ok (.iload_n 1, 1) := by decide +kernel
theorem dX0_passMinutes_31 : decode cX0_passMinutes 31 = .ok (.invokevirtual 168, 3) := by decide +kernel
theorem dX0_passMinutes_34 : decode cX0_passMinutes 34 = .ok (.iconst 0, 1) := by decide +kernel
theorem dX0_passMinutes_35 : decode cX0_passMinutes 35 = .ok (.istore_n 2, 1) := by decide +kernel
theorem dX0_passMinutes_36 : decode cX0_passMinutes 36 = .ok (.iconst 0, 1) := by decide +kernel
theorem dX0_passMinutes_37 : decode cX0_passMinutes 37 = .ok (.istore_n 3, 1) := by decide +kernel
theorem dX0_passMinutes_38 : decode cX0_passMinutes 38 = .ok (.iload_n 3, 1) := by decide +kernel
theorem dX0_passMinutes_39 : decode cX0_passMinutes 39 = .ok (.aload_n 0, 1) := by decide +kernel
theorem dX0_passMinutes_40 : decode cX0_passMinutes 40 = .ok (.getfield 12, 3) := by decide +kernel
theorem dX0_passMinutes_43 : decode cX0_passMinutes 43 = .ok (.getfield 74, 3) := by decide +kernel
theorem dX0_passMinutes_46 : decode cX0_passMinutes 46 = .ok (.if_icmp .ge 20, 3) := by decide +kernel
theorem dX0_passMinutes_49 : decode cX0_passMinutes 49 = .ok (.iload_n 2, 1) := by decide +kernel
theorem dX0_passMinutes_50 : decode cX0_passMinutes 50 = .ok (.aload_n 0, 1) := by decide +kernel
theorem dX0_passMinutes_51 : decode cX0_passMinutes 51 = .ok (.iload_n 3, 1) := by decide +kernel
theorem dX0_passMinutes_52 : decode cX0_passMinutes 52 = .ok (.invokevirtual 171, 3) := by decide +kernel
theorem dX0_passMinutes_55 : decode cX0_passMinutes 55 = .ok (.invokestatic 131, 3) := by decide +kernel
theorem dX0_passMinutes_58 : decode cX0_passMinutes 58 = .ok (.iadd, 1) := by decide +kernel
theorem dX0_passMinutes_59 : decode cX0_passMinutes 59 = .ok (.istore_n 2, 1) := by decide +kernel
theorem dX0_passMinutes_60 : decode cX0_passMinutes 60 = .ok (.iinc 3 1, 3) := by decide +kernel
theorem dX0_passMinutes_63 : decode cX0_passMinutes 63 = .ok (.goto (-25), 3) := by decide +kernel
theorem dX0_passMinutes_66 : decode cX0_passMinutes 66 = .ok (.iload_n 2, 1) := by decide +kernel
theorem dX0_passMinutes_67 : decode cX0_passMinutes 67 = .ok (.ireturn, 1) := by decide +kernel
theorem dX0_changeSetting_0 : decode cX0_changeSetting 0 = .ok (.iload_n 1, 1) := by decide +kernel
theorem dX0_changeSetting_1 : decode cX0_changeSetting 1 = .ok (.ifCond .ne 26, 3) := by decide +kernel
theorem dX0_changeSetting_4 : decode cX0_changeSetting 4 = .ok (.iload_n 2, 1) := by decide +kernel
theorem dX0_changeSetting_5 : decode cX0_changeSetting 5 = .ok (.iconst 1, 1) := by decide +kernel
theorem dX0_changeSetting_6 : decode cX0_changeSetting 6 = .ok (.sipush 200, 3) := by decide +kernel
theorem dX0_changeSetting_9 : decode cX0_changeSetting 9 = .ok (.invokestatic 64, 3) := by decide +kernel
theorem dX0_changeSetting_12 : decode cX0_changeSetting 12 = .ok (.ifCond .eq 15, 3) := by decide +kernel
theorem dX0_changeSetting_15 : decode cX0_changeSetting 15 = .ok (.aload_n 0, 1) := by decide +kernel
theorem dX0_changeSetting_16 : decode cX0_changeSetting 16 = .ok (.getfield 32, 3) := by decide +kernel
theorem dX0_changeSetting_19 : decode cX0_changeSetting 19 = .ok (.istore_n 3, 1) := by decide +kernel
theorem dX0_changeSetting_20 : decode cX0_changeSetting 20 = .ok (.aload_n 0, 1) := by decide +kernel
theorem dX0_changeSetting_21 : decode cX0_changeSetting 21 = .ok (.iload_n 2, 1) := by decide +kernel
theorem dX0_changeSetting_22 : decode cX0_changeSetting 22 = .ok (.putfield 32, 3) := by decide +kernel
theorem dX0_changeSetting_25 : decode cX0_changeSetting 25 = .ok (.iload_n 3, 1) := by decide +kernel
theorem dX0_changeSetting_26 : decode cX0_changeSetting 26 = .ok (.ireturn, 1) := by decide +kernel
theorem dX0_changeSetting_27 : decode cX0_changeSetting 27 = .ok (.iload_n 1, 1) := by decide +kernel
theorem dX0_changeSetting_28 : decode cX0_changeSetting 28 = .ok (.iconst 1, 1) := by decide +kernel
theorem dX0_changeSetting_29 : decode cX0_changeSetting 29 = .ok (.if_icmp .ne 25, 3) := by decide +kernel
theorem dX0_changeSetting_32 : decode cX0_changeSetting 32 = .ok (.iload_n 2, 1) := by decide +kernel
theorem dX0_changeSetting_33 : decode cX0_changeSetting 33 = .ok (.iconst 0, 1) := by decide +kernel
theorem dX0_changeSetting_34 : decode cX0_changeSetting 34 = .ok (.bipush 60, 2) := by decide +kernel
theorem dX0_changeSetting_36 : decode cX0_changeSetting 36 = .ok (.invokestatic 64, 3) := by decide +kernel
theorem dX0_changeSetting_39 : decode cX0_changeSetting 39 = .ok (.ifCond .eq 15, 3) := by decide +kernel
theorem dX0_changeSetting_42 : decode cX0_changeSetting 42 = .ok (.aload_n 0, 1) := by decide +kernel
theorem dX0_changeSetting_43 : decode cX0_changeSetting 43 = .ok (.getfield 36, 3) := by decide +kernel
theorem dX0_changeSetting_46 : decode cX0_changeSetting 46 = .ok (.istore_n 3, 1) := by decide +kernel
theorem dX0_changeSetting_47 : decode cX0_changeSetting 47 = .ok (.aload_n 0, 1) := by decide +kernel
theorem dX0_changeSetting_48 : decode cX0_changeSetting 48 = .ok (.iload_n 2, 1) := by decide +kernel
theorem dX0_changeSetting_49 : decode cX0_changeSetting 49 = .ok (.putfield 36, 3) := by decide +kernel
theorem dX0_changeSetting_52 : decode cX0_changeSetting 52 = .ok (.iload_n 3, 1) := by decide +kernel
theorem dX0_changeSetting_53 : decode cX0_changeSetting 53 = .ok (.ireturn, 1) := by decide +kernel
theorem dX0_changeSetting_54 : decode cX0_changeSetting 54 = .ok (.ldc 68, 2) := by decide +kernel
theorem dX0_changeSetting_56 : decode cX0_changeSetting 56 = .ok (.ireturn, 1) := by decide +kernel
theorem dX0_perform_0 : decode cX0_perform 0 = .ok (.iload_n 1, 1) := by decide +kernel
theorem dX0_perform_1 : decode cX0_perform 1 = .ok (.lookupswitch 97 #[(98, 65), (100, 71), (108, 59), (109, 91), (115, 84), (118, 78)], 59) := by decide +kernel
theorem dX0_perform_60 : decode cX0_perform 60 = .ok (.aload_n 0, 1) := by decide +kernel
theorem dX0_perform_61 : decode cX0_perform 61 = .ok (.iload_n 2, 1) := by decide +kernel
theorem dX0_perform_62 : decode cX0_perform 62 = .ok (.invokevirtual 174, 3) := by decide +kernel
theorem dX0_perform_65 : decode cX0_perform 65 = .ok (.ireturn, 1) := by decide +kernel
theorem dX0_perform_66 : decode cX0_perform 66 = .ok (.aload_n 0, 1) := by decide +kernel
theorem dX0_perform_67 : decode cX0_perform 67 = .ok (.iload_n 2, 1) := by decide +kernel
theorem dX0_perform_68 : decode cX0_perform 68 = .ok (.invokevirtual 177, 3) := by decide +kernel
theorem dX0_perform_71 : decode cX0_perform 71 = .ok (.ireturn, 1) := by decide +kernel
theorem dX0_perform_72 : decode cX0_perform 72 = .ok (.aload_n 0, 1) := by decide +kernel
theorem dX0_perform_73 : decode cX0_perform 73 = .ok (.iload_n 2, 1) := by decide +kernel
theorem dX0_perform_74 : decode cX0_perform 74 = .ok (.iload_n 3, 1) := by decide +kernel
theorem dX0_perform_75 : decode cX0_perform 75 = .ok (.invokevirtual 180, 3) := by decide +kernel
theorem dX0_perform_78 : decode cX0_perform 78 = .ok (.ireturn, 1) := by decide +kernel
theorem dX0_perform_79 : decode cX0_perform 79 = .ok (.aload_n 0, 1) := by decide +kernel
theorem dX0_perform_80 : decode cX0_perform 80 = .ok (.iload_n 2, 1) := by decide +kernel
theorem dX0_perform_81 : decode cX0_perform 81 = .ok (.invokevirtual 183, 3) := by decide +kernel
theorem dX0_perform_84 : decode cX0_perform 84 = .ok (.ireturn, 1) := by decide +kernel
theorem dX0_perform_85 : decode cX0_perform 85 = .ok (.aload_n 0, 1) := by decide +kernel
theorem dX0_perform_86 : decode cX0_perform 86 = .ok (.iload_n 2, 1) := by decide +kernel
theorem dX0_perform_87 : decode cX0_perform 87 = .ok (.iload_n 3, 1) := by decide +kernel
theorem dX0_perform_88 : decode cX0_perform 88 = .ok (.invokevirtual 186, 3) := by decide +kernel
theorem dX0_perform_91 : decode cX0_perform 91 = .ok (.ireturn, 1) := by decide +kernel
theorem dX0_perform_92 : decode cX0_perform 92 = .ok (.aload_n 0, 1) := by decide +kernel
theorem dX0_perform_93 : decode cX0_perform 93 = .ok (.iload_n 2, 1) := by decide +kernel
theorem dX0_perform_94 : decode cX0_perform 94 = .ok (.invokevirtual 189, 3) := by decide +kernel
theorem dX0_perform_97 : decode cX0_perform 97 = .ok (.ireturn, 1) := by decide +kernel
theorem dX0_perform_98 : decode cX0_perform 98 = .ok (.ldc 68, 2) := by decide +kernel
theorem dX0_perform_100 : decode cX0_perform 100 = .ok (.ireturn, 1) := by decide +kernel
theorem dX0_advance_0 : decode cX0_advance 0 = .ok (.aload_n 0, 1) := by decide +kernel
theorem dX0_advance_1 : decode cX0_advance 1 = .ok (.getfield 39, 3) := by decide +kernel
theorem dX0_advance_4 : decode cX0_advance 4 = .ok (.iconst (-1), 1) := by decide +kernel
theorem dX0_advance_5 : decode cX0_advance 5 = .ok (.if_icmp .eq 19, 3) := by decide +kernel
theorem dX0_advance_8 : decode cX0_advance 8 = .ok (.aload_n 0, 1) := by decide +kernel
theorem dX0_advance_9 : decode cX0_advance 9 = .ok (.getfield 12, 3) := by decide +kernel
theorem dX0_advance_12 : decode cX0_advance 12 = .ok (.aload_n 0, 1) := by decide +kernel
theorem dX0_advance_13 : decode cX0_advance 13 = .ok (.getfield 39, 3) := by decide +kernel
theorem dX0_advance_16 : decode cX0_advance 16 = .ok (.aload_n 0, 1) := by decide +kernel
theorem dX0_advance_17 : decode cX0_advance 17 = .ok (.getfield 52, 3) := by decide +kernel
theorem dX0_advance_20 : decode cX0_advance 20 = .ok (.iload_n 1, 1) := by decide +kernel
theorem dX0_advance_21 : decode cX0_advance 21 = .ok (.invokevirtual 192, 3) := by decide +kernel
theorem dX0_advance_24 : decode cX0_advance 24 = .ok (.aload_n 0, 1) := by decide +kernel
theorem dX0_advance_25 : decode cX0_advance 25 = .ok (.getfield 12, 3) := by decide +kernel
theorem dX0_advance_28 : decode cX0_advance 28 = .ok (.iload_n 1, 1) := by decide +kernel
theorem dX0_advance_29 : decode cX0_advance 29 = .ok (.invokevirtual 196, 3) := by decide +kernel
theorem dX0_advance_32 : decode cX0_advance 32 = .ok (.aload_n 0, 1) := by decide +kernel
theorem dX0_advance_33 : decode cX0_advance 33 = .ok (.dup, 1) := by decide +kernel
theorem dX0_advance_34 : decode cX0_advance 34 = .ok (.getfield 52, 3) := by decide +kernel
theorem dX0_advance_37 : decode cX0_advance 37 = .ok (.iload_n 1, 1) := by decide +kernel
theorem dX0_advance_38 : decode cX0_advance 38 = .ok (.iadd, 1) := by decide +kernel
theorem dX0_advance_39 : decode cX0_advance 39 = .ok (.putfield 52, 3) := by decide +kernel
theorem dX0_advance_42 : decode cX0_advance 42 = .ok (.aload_n 0, 1) := by decide +kernel
theorem dX0_advance_43 : decode cX0_advance 43 = .ok (.iconst 0, 1) := by decide +kernel
theorem dX0_advance_44 : decode cX0_advance 44 = .ok (.putfield 55, 3) := by decide +kernel
theorem dX0_advance_47 : decode cX0_advance 47 = .ok (.return_, 1) := by decide +kernel
theorem dX0_findBestSale_0 : decode cX0_findBestSale 0 = .ok (.aload_n 1, 1) := by decide +kernel
theorem dX0_findBestSale_1 : decode cX0_findBestSale 1 = .ok (.iconst (-1), 1) := by decide +kernel
theorem dX0_findBestSale_2 : decode cX0_findBestSale 2 = .ok (.putfield 199, 3) := by decide +kernel
theorem dX0_findBestSale_5 : decode cX0_findBestSale 5 = .ok (.iconst 0, 1) := by decide +kernel
theorem dX0_findBestSale_6 : decode cX0_findBestSale 6 = .ok (.istore_n 2, 1) := by decide +kernel
theorem dX0_findBestSale_7 : decode cX0_findBestSale 7 = .ok (.iload_n 2, 1) := by decide +kernel
theorem dX0_findBestSale_8 : decode cX0_findBestSale 8 = .ok (.aload_n 0, 1) := by decide +kernel
theorem dX0_findBestSale_9 : decode cX0_findBestSale 9 = .ok (.getfield 21, 3) := by decide +kernel
theorem dX0_findBestSale_12 : decode cX0_findBestSale 12 = .ok (.getfield 106, 3) := by decide +kernel
theorem dX0_findBestSale_15 : decode cX0_findBestSale 15 = .ok (.if_icmp .ge 78, 3) := by decide +kernel
theorem dX0_findBestSale_18 : decode cX0_findBestSale 18 = .ok (.iconst 0, 1) := by decide +kernel
theorem dX0_findBestSale_19 : decode cX0_findBestSale 19 = .ok (.istore_n 3, 1) := by decide +kernel
theorem dX0_findBestSale_20 : decode cX0_findBestSale 20 = .ok (.iload_n 3, 1) := by decide +kernel
theorem dX0_findBestSale_21 : decode cX0_findBestSale 21 = .ok (.aload_n 0, 1) := by decide +kernel
theorem dX0_findBestSale_22 : decode cX0_findBestSale 22 = .ok (.getfield 28, 3) := by decide +kernel
theorem dX0_findBestSale_25 : decode cX0_findBestSale 25 = .ok (.getfield 99, 3) := by decide +kernel
theorem dX0_findBestSale_28 : decode cX0_findBestSale 28 = .ok (.if_icmp .ge 59, 3) := by decide +kernel
theorem dX0_findBestSale_31 : decode cX0_findBestSale 31 = .ok (.aload_n 0, 1) := by decide +kernel
theorem dX0_findBestSale_32 : decode cX0_findBestSale 32 = .ok (.iload_n 2, 1) := by decide +kernel
theorem dX0_findBestSale_33 : decode cX0_findBestSale 33 = .ok (.iload_n 3, 1) := by decide +kernel
theorem dX0_findBestSale_34 : decode cX0_findBestSale 34 = .ok (.invokevirtual 159, 3) := by decide +kernel
theorem dX0_findBestSale_37 : decode cX0_findBestSale 37 = .ok (.istore 4, 2) := by decide +kernel
theorem dX0_findBestSale_39 : decode cX0_findBestSale 39 = .ok (.iload 4, 2) := by decide +kernel
theorem dX0_findBestSale_41 : decode cX0_findBestSale 41 = .ok (.aload_n 1, 1) := by decide +kernel
theorem dX0_findBestSale_42 : decode cX0_findBestSale 42 = .ok (.getfield 199, 3) := by decide +kernel
theorem dX0_findBestSale_45 : decode cX0_findBestSale 45 = .ok (.if_icmp .le 36, 3) := by decide +kernel
theorem dX0_findBestSale_48 : decode cX0_findBestSale 48 = .ok (.aload_n 0, 1) := by decide +kernel
theorem dX0_findBestSale_49 : decode cX0_findBestSale 49 = .ok (.iload_n 2, 1) := by decide +kernel
theorem dX0_findBestSale_50 : decode cX0_findBestSale 50 = .ok (.iload_n 3, 1) := by decide +kernel
theorem dX0_findBestSale_51 : decode cX0_findBestSale 51 = .ok (.invokevirtual 154, 3) := by decide +kernel
theorem dX0_findBestSale_54 : decode cX0_findBestSale 54 = .ok (.ifCond .eq 27, 3) := by decide +kernel
theorem dX0_findBestSale_57 : decode cX0_findBestSale 57 = .ok (.aload_n 1, 1) := by decide +kernel
theorem dX0_findBestSale_58 : decode cX0_findBestSale 58 = .ok (.aload_n 0, 1) := by decide +kernel
theorem dX0_findBestSale_59 : decode cX0_findBestSale 59 = .ok (.getfield 21, 3) := by decide +kernel
theorem dX0_findBestSale_62 : decode cX0_findBestSale 62 = .ok (.getfield 204, 3) := by decide +kernel
theorem dX0_findBestSale_65 : decode cX0_findBestSale 65 = .ok (.iload_n 2, 1) := by decide +kernel
theorem dX0_findBestSale_66 : decode cX0_findBestSale 66 = .ok (.iaload, 1) := by decide +kernel
theorem dX0_findBestSale_67 : decode cX0_findBestSale 67 = .ok (.putfield 207, 3) := by decide +kernel
theorem dX0_findBestSale_70 : decode cX0_findBestSale 70 = .ok (.aload_n 1, 1) := by decide +kernel
theorem dX0_findBestSale_71 : decode cX0_findBestSale 71 = .ok (.iload_n 3, 1) := by decide +kernel
theorem dX0_findBestSale_72 : decode cX0_findBestSale 72 = .ok (.putfield 210, 3) := by decide +kernel
theorem dX0_findBestSale_75 : decode cX0_findBestSale 75 = .ok (.aload_n 1, 1) := by decide +kernel
theorem dX0_findBestSale_76 : decode cX0_findBestSale 76 = .ok (.iload 4, 2) := by decide +kernel
theorem dX0_findBestSale_78 : decode cX0_findBestSale 78 = .ok (.putfield 199, 3) := by decide +kernel
theorem dX0_findBestSale_81 : decode cX0_findBestSale 81 = .ok (.iinc 3 1, 3) := by decide +kernel
theorem dX0_findBestSale_84 : decode cX0_findBestSale 84 = .ok (.goto (-64), 3) := by decide +kernel
theorem dX0_findBestSale_87 : decode cX0_findBestSale 87 = .ok (.iinc 2 1, 3) := by decide +kernel
theorem dX0_findBestSale_90 : decode cX0_findBestSale 90 = .ok (.goto (-83), 3) := by decide +kernel
theorem dX0_findBestSale_93 : decode cX0_findBestSale 93 = .ok (.aload_n 1, 1) := by decide +kernel
theorem dX0_findBestSale_94 : decode cX0_findBestSale 94 = .ok (.getfield 199, 3) := by decide +kernel
theorem dX0_findBestSale_97 : decode cX0_findBestSale 97 = .ok (.iconst (-1), 1) := by decide +kernel
theorem dX0_findBestSale_98 : decode cX0_findBestSale 98 = .ok (.if_icmp .eq 7, 3) := by decide +kernel
theorem dX0_findBestSale_101 : decode cX0_findBestSale 101 = .ok (.iconst 1, 1) := by decide +kernel
theorem dX0_findBestSale_102 : decode cX0_findBestSale 102 = .ok (.goto 4, 3) := by decide +kernel
theorem dX0_findBestSale_105 : decode cX0_findBestSale 105 = .ok (.iconst 0, 1) := by decide +kernel
theorem dX0_findBestSale_106 : decode cX0_findBestSale 106 = .ok (.ireturn, 1) := by decide +kernel
theorem dX0_canSell_0 : decode cX0_canSell 0 = .ok (.aload_n 0, 1) := by decide +kernel
theorem dX0_canSell_1 : decode cX0_canSell 1 = .ok (.iload_n 1, 1) := by decide +kernel
theorem dX0_canSell_2 : decode cX0_canSell 2 = .ok (.invokevirtual 213, 3) := by decide +kernel
theorem dX0_canSell_5 : decode cX0_canSell 5 = .ok (.ifCond .eq 34, 3) := by decide +kernel
theorem dX0_canSell_8 : decode cX0_canSell 8 = .ok (.aload_n 0, 1) := by decide +kernel
theorem dX0_canSell_9 : decode cX0_canSell 9 = .ok (.getfield 28, 3) := by decide +kernel
theorem dX0_canSell_12 : decode cX0_canSell 12 = .ok (.iload_n 2, 1) := by decide +kernel
theorem dX0_canSell_13 : decode cX0_canSell 13 = .ok (.aload_n 0, 1) := by decide +kernel
theorem dX0_canSell_14 : decode cX0_canSell 14 = .ok (.invokevirtual 146, 3) := by decide +kernel
theorem dX0_canSell_17 : decode cX0_canSell 17 = .ok (.invokevirtual 216, 3) := by decide +kernel
theorem dX0_canSell_20 : decode cX0_canSell 20 = .ok (.aload_n 0, 1) := by decide +kernel
theorem dX0_canSell_21 : decode cX0_canSell 21 = .ok (.getfield 21, 3) := by decide +kernel
theorem dX0_canSell_24 : decode cX0_canSell 24 = .ok (.getfield 157, 3) := by decide +kernel
theorem dX0_canSell_27 : decode cX0_canSell 27 = .ok (.iload_n 1, 1) := by decide +kernel
theorem dX0_canSell_28 : decode cX0_canSell 28 = .ok (.iaload, 1) := by decide +kernel
theorem dX0_canSell_29 : decode cX0_canSell 29 = .ok (.invokestatic 117, 3) := by decide +kernel
theorem dX0_canSell_32 : decode cX0_canSell 32 = .ok (.ifCond .ne 7, 3) := by decide +kernel
theorem dX0_canSell_35 : decode cX0_canSell 35 = .ok (.iconst 1, 1) := by decide +kernel
theorem dX0_canSell_36 : decode cX0_canSell 36 = .ok (.goto 4, 3) := by decide +kernel
theorem dX0_canSell_39 : decode cX0_canSell 39 = .ok (.iconst 0, 1) := by decide +kernel
theorem dX0_canSell_40 : decode cX0_canSell 40 = .ok (.ireturn, 1) := by decide +kernel
theorem dX0_priceAt_0 : decode cX0_priceAt 0 = .ok (.aload_n 0, 1) := by decide +kernel
theorem dX0_priceAt_1 : decode cX0_priceAt 1 = .ok (.getfield 28, 3) := by decide +kernel
theorem dX0_priceAt_4 : decode cX0_priceAt 4 = .ok (.getfield 100, 3) := by decide +kernel
theorem dX0_priceAt_7 : decode cX0_priceAt 7 = .ok (.iload_n 2, 1) := by decide +kernel
theorem dX0_priceAt_8 : decode cX0_priceAt 8 = .ok (.iaload, 1) := by decide +kernel
theorem dX0_priceAt_9 : decode cX0_priceAt 9 = .ok (.aload_n 0, 1) := by decide +kernel
theorem dX0_priceAt_10 : decode cX0_priceAt 10 = .ok (.getfield 21, 3) := by decide +kernel
theorem dX0_priceAt_13 : decode cX0_priceAt 13 = .ok (.getfield 120, 3) := by decide +kernel
theorem dX0_priceAt_16 : decode cX0_priceAt 16 = .ok (.iload_n 1, 1) := by decide +kernel
theorem dX0_priceAt_17 : decode cX0_priceAt 17 = .ok (.iaload, 1) := by decide +kernel
theorem dX0_priceAt_18 : decode cX0_priceAt 18 = .ok (.invokestatic 131, 3) := by decide +kernel
theorem dX0_priceAt_21 : decode cX0_priceAt 21 = .ok (.imul, 1) := by decide +kernel
theorem dX0_priceAt_22 : decode cX0_priceAt 22 = .ok (.istore_n 3, 1) := by decide +kernel
theorem dX0_priceAt_23 : decode cX0_priceAt 23 = .ok (.aload_n 0, 1) := by decide +kernel
theorem dX0_priceAt_24 : decode cX0_priceAt 24 = .ok (.aload_n 0, 1) := by decide +kernel
theorem dX0_priceAt_25 : decode cX0_priceAt 25 = .ok (.getfield 21, 3) := by decide +kernel
theorem dX0_priceAt_28 : decode cX0_priceAt 28 = .ok (.getfield 157, 3) := by decide +kernel
theorem dX0_priceAt_31 : decode cX0_priceAt 31 = .ok (.iload_n 1, 1) := by decide +kernel
theorem dX0_priceAt_32 : decode cX0_priceAt 32 = .ok (.iaload, 1) := by decide +kernel
theorem dX0_priceAt_33 : decode cX0_priceAt 33 = .ok (.invokevirtual 140, 3) := by decide +kernel
theorem dX0_priceAt_36 : decode cX0_priceAt 36 = .ok (.ifCond .eq 7, 3) := by decide +kernel
theorem dX0_priceAt_39 : decode cX0_priceAt 39 = .ok (.iload_n 3, 1) := by decide +kernel
theorem dX0_priceAt_40 : decode cX0_priceAt 40 = .ok (.iconst 2, 1) := by decide +kernel
theorem dX0_priceAt_41 : decode cX0_priceAt 41 = .ok (.imul, 1) := by decide +kernel
theorem dX0_priceAt_42 : decode cX0_priceAt 42 = .ok (.istore_n 3, 1) := by decide +kernel
theorem dX0_priceAt_43 : decode cX0_priceAt 43 = .ok (.aload_n 0, 1) := by decide +kernel
theorem dX0_priceAt_44 : decode cX0_priceAt 44 = .ok (.invokevirtual 219, 3) := by decide +kernel
theorem dX0_priceAt_47 : decode cX0_priceAt 47 = .ok (.aload_n 0, 1) := by decide +kernel
theorem dX0_priceAt_48 : decode cX0_priceAt 48 = .ok (.getfield 28, 3) := by decide +kernel
theorem dX0_priceAt_51 : decode cX0_priceAt 51 = .ok (.getfield 103, 3) := by decide +kernel
theorem dX0_priceAt_54 : decode cX0_priceAt 54 = .ok (.iload_n 2, 1) := by decide +kernel
theorem dX0_priceAt_55 : decode cX0_priceAt 55 = .ok (.iaload, 1) := by decide +kernel
theorem dX0_priceAt_56 : decode cX0_priceAt 56 = .ok (.if_icmp .le 9, 3) := by decide +kernel
theorem dX0_priceAt_59 : decode cX0_priceAt 59 = .ok (.iload_n 3, 1) := by decide +kernel
theorem dX0_priceAt_60 : decode cX0_priceAt 60 = .ok (.iconst 2, 1) := by decide +kernel
theorem dX0_priceAt_61 : decode cX0_priceAt 61 = .ok (.idiv, 1) := by decide +kernel
theorem dX0_priceAt_62 : decode cX0_priceAt 62 = .ok (.goto 4, 3) := by decide +kernel
theorem dX0_priceAt_65 : decode cX0_priceAt 65 = .ok (.iload_n 3, 1) := by decide +kernel
theorem dX0_priceAt_66 : decode cX0_priceAt 66 = .ok (.ireturn, 1) := by decide +kernel
theorem dX0_day_0 : decode cX0_day 0 = .ok (.aload_n 0, 1) := by decide +kernel
theorem dX0_day_1 : decode cX0_day 1 = .ok (.getfield 52, 3) := by decide +kernel
theorem dX0_day_4 : decode cX0_day 4 = .ok (.sipush 300, 3) := by decide +kernel
theorem dX0_day_7 : decode cX0_day 7 = .ok (.idiv, 1) := by decide +kernel
theorem dX0_day_8 : decode cX0_day 8 = .ok (.ireturn, 1) := by decide +kernel
theorem dX0_hour_0 : decode cX0_hour 0 = .ok (.aload_n 0, 1) := by decide +kernel
theorem dX0_hour_1 : decode cX0_hour 1 = .ok (.getfield 52, 3) := by decide +kernel
theorem dX0_hour_4 : decode cX0_hour 4 = .ok (.sipush 300, 3) := by decide +kernel
theorem dX0_hour_7 : decode cX0_hour 7 = .ok (.irem, 1) := by decide +kernel
theorem dX0_hour_8 : decode cX0_hour 8 = .ok (.ireturn, 1) := by decide +kernel
theorem dX0_hasVerdict_0 : decode cX0_hasVerdict 0 = .ok (.aload_n 0, 1) := by decide +kernel
theorem dX0_hasVerdict_1 : decode cX0_hasVerdict 1 = .ok (.getfield 12, 3) := by decide +kernel
theorem dX0_hasVerdict_4 : decode cX0_hasVerdict 4 = .ok (.getfield 143, 3) := by decide +kernel
theorem dX0_hasVerdict_7 : decode cX0_hasVerdict 7 = .ok (.iload_n 1, 1) := by decide +kernel
theorem dX0_hasVerdict_8 : decode cX0_hasVerdict 8 = .ok (.iaload, 1) := by decide +kernel
theorem dX0_hasVerdict_9 : decode cX0_hasVerdict 9 = .ok (.aload_n 0, 1) := by decide +kernel
theorem dX0_hasVerdict_10 : decode cX0_hasVerdict 10 = .ok (.invokevirtual 146, 3) := by decide +kernel
theorem dX0_hasVerdict_13 : decode cX0_hasVerdict 13 = .ok (.if_icmp .ne 7, 3) := by decide +kernel
theorem dX0_hasVerdict_16 : decode cX0_hasVerdict 16 = .ok (.iconst 1, 1) := by decide +kernel
theorem dX0_hasVerdict_17 : decode cX0_hasVerdict 17 = .ok (.goto 4, 3) := by decide +kernel
theorem dX0_hasVerdict_20 : decode cX0_hasVerdict 20 = .ok (.iconst 0, 1) := by decide +kernel
theorem dX0_hasVerdict_21 : decode cX0_hasVerdict 21 = .ok (.ireturn, 1) := by decide +kernel
theorem dX0_remembered_0 : decode cX0_remembered 0 = .ok (.aload_n 0, 1) := by decide +kernel
theorem dX0_remembered_1 : decode cX0_remembered 1 = .ok (.getfield 12, 3) := by decide +kernel
theorem dX0_remembered_4 : decode cX0_remembered 4 = .ok (.iload_n 1, 1) := by decide +kernel
theorem dX0_remembered_5 : decode cX0_remembered 5 = .ok (.aload_n 0, 1) := by decide +kernel
theorem dX0_remembered_6 : decode cX0_remembered 6 = .ok (.getfield 52, 3) := by decide +kernel
theorem dX0_remembered_9 : decode cX0_remembered 9 = .ok (.aload_n 0, 1) := by decide +kernel
theorem dX0_remembered_10 : decode cX0_remembered 10 = .ok (.getfield 32, 3) := by decide +kernel
theorem dX0_remembered_13 : decode cX0_remembered 13 = .ok (.isub, 1) := by decide +kernel
theorem dX0_remembered_14 : decode cX0_remembered 14 = .ok (.invokevirtual 222, 3) := by decide +kernel
theorem dX0_remembered_17 : decode cX0_remembered 17 = .ok (.ireturn, 1) := by decide +kernel
theorem dX0_drawable_0 : decode cX0_drawable 0 = .ok (.aload_n 0, 1) := by decide +kernel
theorem dX0_drawable_1 : decode cX0_drawable 1 = .ok (.aload_n 0, 1) := by decide +kernel
theorem dX0_drawable_2 : decode cX0_drawable 2 = .ok (.getfield 21, 3) := by decide +kernel
theorem dX0_drawable_5 : decode cX0_drawable 5 = .ok (.getfield 157, 3) := by decide +kernel
theorem dX0_drawable_8 : decode cX0_drawable 8 = .ok (.iload_n 1, 1) := by decide +kernel
theorem dX0_drawable_9 : decode cX0_drawable 9 = .ok (.iaload, 1) := by decide +kernel
theorem dX0_drawable_10 : decode cX0_drawable 10 = .ok (.invokevirtual 171, 3) := by decide +kernel
theorem dX0_drawable_13 : decode cX0_drawable 13 = .ok (.aload_n 0, 1) := by decide +kernel
theorem dX0_drawable_14 : decode cX0_drawable 14 = .ok (.getfield 21, 3) := by decide +kernel
theorem dX0_drawable_17 : decode cX0_drawable 17 = .ok (.getfield 120, 3) := by decide +kernel
theorem dX0_drawable_20 : decode cX0_drawable 20 = .ok (.iload_n 1, 1) := by decide +kernel
theorem dX0_drawable_21 : decode cX0_drawable 21 = .ok (.iaload, 1) := by decide +kernel
theorem dX0_drawable_22 : decode cX0_drawable 22 = .ok (.iconst (-1), 1) := by decide +kernel
theorem dX0_drawable_23 : decode cX0_drawable 23 = .ok (.ixor, 1) := by decide +kernel
theorem dX0_drawable_24 : decode cX0_drawable 24 = .ok (.iand, 1) := by decide +kernel
theorem dX0_drawable_25 : decode cX0_drawable 25 = .ok (.ireturn, 1) := by decide +kernel
theorem dX0_wetFor_0 : decode cX0_wetFor 0 = .ok (.aload_n 0, 1) := by decide +kernel
theorem dX0_wetFor_1 : decode cX0_wetFor 1 = .ok (.getfield 21, 3) := by decide +kernel
theorem dX0_wetFor_4 : decode cX0_wetFor 4 = .ok (.getfield 123, 3) := by decide +kernel
theorem dX0_wetFor_7 : decode cX0_wetFor 7 = .ok (.iload_n 1, 1) := by decide +kernel
theorem dX0_wetFor_8 : decode cX0_wetFor 8 = .ok (.iaload, 1) := by decide +kernel
theorem dX0_wetFor_9 : decode cX0_wetFor 9 = .ok (.aload_n 0, 1) := by decide +kernel
theorem dX0_wetFor_10 : decode cX0_wetFor 10 = .ok (.getfield 52, 3) := by decide +kernel
theorem dX0_wetFor_13 : decode cX0_wetFor 13 = .ok (.if_icmp .le 20, 3) := by decide +kernel
theorem dX0_wetFor_16 : decode cX0_wetFor 16 = .ok (.aload_n 0, 1) := by decide +kernel
theorem dX0_wetFor_17 : decode cX0_wetFor 17 = .ok (.getfield 21, 3) := by decide +kernel
theorem dX0_wetFor_20 : decode cX0_wetFor 20 = .ok (.getfield 123, 3) := by decide +kernel
theorem dX0_wetFor_23 : decode cX0_wetFor 23 = .ok (.iload_n 1, 1) := by decide +kernel
theorem dX0_wetFor_24 : decode cX0_wetFor 24 = .ok (.iaload, 1) := by decide +kernel
theorem dX0_wetFor_25 : decode cX0_wetFor 25 = .ok (.aload_n 0, 1) := by decide +kernel
theorem dX0_wetFor_26 : decode cX0_wetFor 26 = .ok (.getfield 52, 3) := by decide +kernel
theorem dX0_wetFor_29 : decode cX0_wetFor 29 = .ok (.isub, 1) := by decide +kernel
theorem dX0_wetFor_30 : decode cX0_wetFor 30 = .ok (.goto 4, 3) := by decide +kernel
theorem dX0_wetFor_33 : decode cX0_wetFor 33 = .ok (.iconst 0, 1) := by decide +kernel
theorem dX0_wetFor_34 : decode cX0_wetFor 34 = .ok (.ireturn, 1) := by decide +kernel
theorem dX0_isDry_0 : decode cX0_isDry 0 = .ok (.aload_n 0, 1) := by decide +kernel
theorem dX0_isDry_1 : decode cX0_isDry 1 = .ok (.getfield 21, 3) := by decide +kernel
theorem dX0_isDry_4 : decode cX0_isDry 4 = .ok (.getfield 120, 3) := by decide +kernel
theorem dX0_isDry_7 : decode cX0_isDry 7 = .ok (.iload_n 1, 1) := by decide +kernel
theorem dX0_isDry_8 : decode cX0_isDry 8 = .ok (.iaload, 1) := by decide +kernel
theorem dX0_isDry_9 : decode cX0_isDry 9 = .ok (.ifCond .eq 15, 3) := by decide +kernel
theorem dX0_isDry_12 : decode cX0_isDry 12 = .ok (.aload_n 0, 1) := by decide +kernel
theorem dX0_isDry_13 : decode cX0_isDry 13 = .ok (.iload_n 1, 1) := by decide +kernel
theorem dX0_isDry_14 : decode cX0_isDry 14 = .ok (.invokevirtual 225, 3) := by decide +kernel
theorem dX0_isDry_17 : decode cX0_isDry 17 = .ok (.ifCond .ne 7, 3) := by decide +kernel
theorem dX0_isDry_20 : decode cX0_isDry 20 = .ok (.iconst 1, 1) := by decide +kernel
theorem dX0_isDry_21 : decode cX0_isDry 21 = .ok (.goto 4, 3) := by decide +kernel
theorem dX0_isDry_24 : decode cX0_isDry 24 = .ok (.iconst 0, 1) := by decide +kernel
theorem dX0_isDry_25 : decode cX0_isDry 25 = .ok (.ireturn, 1) := by decide +kernel
theorem dX0_tellOfPerson_0 : decode cX0_tellOfPerson 0 = .ok (.aload_n 0, 1) := by decide +kernel
theorem dX0_tellOfPerson_1 : decode cX0_tellOfPerson 1 = .ok (.getfield 12, 3) := by decide +kernel
theorem dX0_tellOfPerson_4 : decode cX0_tellOfPerson 4 = .ok (.iload_n 1, 1) := by decide +kernel
theorem dX0_tellOfPerson_5 : decode cX0_tellOfPerson 5 = .ok (.invokevirtual 85, 3) := by decide +kernel
theorem dX0_tellOfPerson_8 : decode cX0_tellOfPerson 8 = .ok (.ifCond .ne 6, 3) := by decide +kernel
theorem dX0_tellOfPerson_11 : decode cX0_tellOfPerson 11 = .ok (.ldc 68, 2) := by decide +kernel
theorem dX0_tellOfPerson_13 : decode cX0_tellOfPerson 13 = .ok (.ireturn, 1) := by decide +kernel
theorem dX0_tellOfPerson_14 : decode cX0_tellOfPerson 14 = .ok (.iload_n 2, 1) := by decide +kernel
theorem dX0_tellOfPerson_15 : decode cX0_tellOfPerson 15 = .ok (.tableswitch 138 0 8 #[49, 59, 69, 79, 89, 99, 105, 119, 128], 49) := by decide +kernel
theorem dX0_tellOfPerson_64 : decode cX0_tellOfPerson 64 = .ok (.aload_n 0, 1) := by decide +kernel
theorem dX0_tellOfPerson_65 : decode cX0_tellOfPerson 65 = .ok (.getfield 12, 3) := by decide +kernel
theorem dX0_tellOfPerson_68 : decode cX0_tellOfPerson 68 = .ok (.getfield 78, 3) := by decide +kernel
theorem dX0_tellOfPerson_71 : decode cX0_tellOfPerson 71 = .ok (.iload_n 1, 1) := by decide +kernel
theorem dX0_tellOfPerson_72 : decode cX0_tellOfPerson 72 = .ok (.iaload, 1) := by decide +kernel
theorem dX0_tellOfPerson_73 : decode cX0_tellOfPerson 73 = .ok (.ireturn, 1) := by decide +kernel
theorem dX0_tellOfPerson_74 : decode cX0_tellOfPerson 74 = .ok (.aload_n 0, 1) := by decide +kernel
theorem dX0_tellOfPerson_75 : decode cX0_tellOfPerson 75 = .ok (.getfield 12, 3) := by decide +kernel
theorem dX0_tellOfPerson_78 : decode cX0_tellOfPerson 78 = .ok (.getfield 82, 3) := by decide +kernel
theorem dX0_tellOfPerson_81 : decode cX0_tellOfPerson 81 = .ok (.iload_n 1, 1) := by decide +kernel
theorem dX0_tellOfPerson_82 : decode cX0_tellOfPerson 82 = .ok (.iaload, 1) := by decide +kernel
theorem dX0_tellOfPerson_83 : decode cX0_tellOfPerson 83 = .ok (.ireturn, 1) := by decide +kernel
theorem dX0_tellOfPerson_84 : decode cX0_tellOfPerson 84 = .ok (.aload_n 0, 1) := by decide +kernel
theorem dX0_tellOfPerson_85 : decode cX0_tellOfPerson 85 = .ok (.getfield 12, 3) := by decide +kernel
theorem dX0_tellOfPerson_88 : decode cX0_tellOfPerson 88 = .ok (.getfield 89, 3) := by decide +kernel
theorem dX0_tellOfPerson_91 : decode cX0_tellOfPerson 91 = .ok (.iload_n 1, 1) := by decide +kernel
theorem dX0_tellOfPerson_92 : decode cX0_tellOfPerson 92 = .ok (.iaload, 1) := by decide +kernel
theorem dX0_tellOfPerson_93 : decode cX0_tellOfPerson 93 = .ok (.ireturn, 1) := by decide +kernel
theorem dX0_tellOfPerson_94 : decode cX0_tellOfPerson 94 = .ok (.aload_n 0, 1) := by decide +kernel
theorem dX0_tellOfPerson_95 : decode cX0_tellOfPerson 95 = .ok (.getfield 12, 3) := by decide +kernel
theorem dX0_tellOfPerson_98 : decode cX0_tellOfPerson 98 = .ok (.getfield 92, 3) := by decide +kernel
theorem dX0_tellOfPerson_101 : decode cX0_tellOfPerson 101 = .ok (.iload_n 1, 1) := by decide +kernel
theorem dX0_tellOfPerson_102 : decode cX0_tellOfPerson 102 = .ok (.iaload, 1) := by decide +kernel
theorem dX0_tellOfPerson_103 : decode cX0_tellOfPerson 103 = .ok (.ireturn, 1) := by decide +kernel
theorem dX0_tellOfPerson_104 : decode cX0_tellOfPerson 104 = .ok (.aload_n 0, 1) := by decide +kernel
theorem dX0_tellOfPerson_105 : decode cX0_tellOfPerson 105 = .ok (.getfield 12, 3) := by decide +kernel
theorem dX0_tellOfPerson_108 : decode cX0_tellOfPerson 108 = .ok (.iload_n 1, 1) := by decide +kernel
theorem dX0_tellOfPerson_109 : decode cX0_tellOfPerson 109 = .ok (.iconst 0, 1) := by decide +kernel
theorem dX0_tellOfPerson_110 : decode cX0_tellOfPerson 110 = .ok (.invokevirtual 95, 3) := by decide +kernel
theorem dX0_tellOfPerson_113 : decode cX0_tellOfPerson 113 = .ok (.ireturn, 1) := by decide +kernel
theorem dX0_tellOfPerson_114 : decode cX0_tellOfPerson 114 = .ok (.aload_n 0, 1) := by decide +kernel
theorem dX0_tellOfPerson_115 : decode cX0_tellOfPerson 115 = .ok (.iload_n 1, 1) := by decide +kernel
theorem dX0_tellOfPerson_116 : decode cX0_tellOfPerson 116 = .ok (.invokevirtual 171, 3) := by decide +kernel
theorem dX0_tellOfPerson_119 : decode cX0_tellOfPerson 119 = .ok (.ireturn, 1) := by decide +kernel
theorem dX0_tellOfPerson_120 : decode cX0_tellOfPerson 120 = .ok (.aload_n 0, 1) := by decide +kernel
theorem dX0_tellOfPerson_121 : decode cX0_tellOfPerson 121 = .ok (.iload_n 1, 1) := by decide +kernel
theorem dX0_tellOfPerson_122 : decode cX0_tellOfPerson 122 = .ok (.invokevirtual 140, 3) := by decide +kernel
theorem dX0_tellOfPerson_125 : decode cX0_tellOfPerson 125 = .ok (.ifCond .eq 7, 3) := by decide +kernel
theorem dX0_tellOfPerson_128 : decode cX0_tellOfPerson 128 = .ok (.iconst 1, 1) := by decide +kernel
theorem dX0_tellOfPerson_129 : decode cX0_tellOfPerson 129 = .ok (.goto 4, 3) := by decide +kernel
theorem dX0_tellOfPerson_132 : decode cX0_tellOfPerson 132 = .ok (.iconst 0, 1) := by decide +kernel
theorem dX0_tellOfPerson_133 : decode cX0_tellOfPerson 133 = .ok (.ireturn, 1) := by decide +kernel
theorem dX0_tellOfPerson_134 : decode cX0_tellOfPerson 134 = .ok (.aload_n 0, 1) := by decide +kernel
theorem dX0_tellOfPerson_135 : decode cX0_tellOfPerson 135 = .ok (.getfield 21, 3) := by decide +kernel
theorem dX0_tellOfPerson_138 : decode cX0_tellOfPerson 138 = .ok (.iload_n 1, 1) := by decide +kernel
theorem dX0_tellOfPerson_139 : decode cX0_tellOfPerson 139 = .ok (.invokevirtual 150, 3) := by decide +kernel
theorem dX0_tellOfPerson_142 : decode cX0_tellOfPerson 142 = .ok (.ireturn, 1) := by decide +kernel
theorem dX0_tellOfPerson_143 : decode cX0_tellOfPerson 143 = .ok (.aload_n 0, 1) := by decide +kernel
theorem dX0_tellOfPerson_144 : decode cX0_tellOfPerson 144 = .ok (.getfield 12, 3) := by decide +kernel
theorem dX0_tellOfPerson_147 : decode cX0_tellOfPerson 147 = .ok (.getfield 166, 3) := by decide +kernel
theorem dX0_tellOfPerson_150 : decode cX0_tellOfPerson 150 = .ok (.iload_n 1, 1) := by decide +kernel
theorem dX0_tellOfPerson_151 : decode cX0_tellOfPerson 151 = .ok (.iaload, 1) := by decide +kernel
theorem dX0_tellOfPerson_152 : decode cX0_tellOfPerson 152 = .ok (.ireturn, 1) := by decide +kernel
theorem dX0_tellOfPerson_153 : decode cX0_tellOfPerson 153 = .ok (.ldc 68, 2) := by decide +kernel
theorem dX0_tellOfPerson_155 : decode cX0_tellOfPerson 155 = .ok (.ireturn, 1) := by decide +kernel
theorem dX0_tellOfSheet_0 : decode cX0_tellOfSheet 0 = .ok (.aload_n 0, 1) := by decide +kernel
theorem dX0_tellOfSheet_1 : decode cX0_tellOfSheet 1 = .ok (.getfield 21, 3) := by decide +kernel
theorem dX0_tellOfSheet_4 : decode cX0_tellOfSheet 4 = .ok (.iload_n 1, 1) := by decide +kernel
theorem dX0_tellOfSheet_5 : decode cX0_tellOfSheet 5 = .ok (.invokevirtual 111, 3) := by decide +kernel
theorem dX0_tellOfSheet_8 : decode cX0_tellOfSheet 8 = .ok (.istore_n 3, 1) := by decide +kernel
theorem dX0_tellOfSheet_9 : decode cX0_tellOfSheet 9 = .ok (.iload_n 3, 1) := by decide +kernel
theorem dX0_tellOfSheet_10 : decode cX0_tellOfSheet 10 = .ok (.iconst (-1), 1) := by decide +kernel
theorem dX0_tellOfSheet_11 : decode cX0_tellOfSheet 11 = .ok (.if_icmp .ne 6, 3) := by decide +kernel
theorem dX0_tellOfSheet_14 : decode cX0_tellOfSheet 14 = .ok (.ldc 68, 2) := by decide +kernel
theorem dX0_tellOfSheet_16 : decode cX0_tellOfSheet 16 = .ok (.ireturn, 1) := by decide +kernel
theorem dX0_tellOfSheet_17 : decode cX0_tellOfSheet 17 = .ok (.iload_n 2, 1) := by decide +kernel
theorem dX0_tellOfSheet_18 : decode cX0_tellOfSheet 18 = .ok (.tableswitch 97 0 5 #[38, 48, 58, 71, 85, 91], 38) := by decide +kernel
theorem dX0_tellOfSheet_56 : decode cX0_tellOfSheet 56 = .ok (.aload_n 0, 1) := by decide +kernel
theorem dX0_tellOfSheet_57 : decode cX0_tellOfSheet 57 = .ok (.getfield 21, 3) := by decide +kernel
theorem dX0_tellOfSheet_60 : decode cX0_tellOfSheet 60 = .ok (.getfield 157, 3) := by decide +kernel
theorem dX0_tellOfSheet_63 : decode cX0_tellOfSheet 63 = .ok (.iload_n 3, 1) := by decide +kernel
theorem dX0_tellOfSheet_64 : decode cX0_tellOfSheet 64 = .ok (.iaload, 1) := by decide +kernel
theorem dX0_tellOfSheet_65 : decode cX0_tellOfSheet 65 = .ok (.ireturn, 1) := by decide +kernel
theorem dX0_tellOfSheet_66 : decode cX0_tellOfSheet 66 = .ok (.aload_n 0, 1) := by decide +kernel
theorem dX0_tellOfSheet_67 : decode cX0_tellOfSheet 67 = .ok (.getfield 21, 3) := by decide +kernel
theorem dX0_tellOfSheet_70 : decode cX0_tellOfSheet 70 = .ok (.getfield 120, 3) := by decide +kernel
theorem dX0_tellOfSheet_73 : decode cX0_tellOfSheet 73 = .ok (.iload_n 3, 1) := by decide +kernel
theorem dX0_tellOfSheet_74 : decode cX0_tellOfSheet 74 = .ok (.iaload, 1) := by decide +kernel
theorem dX0_tellOfSheet_75 : decode cX0_tellOfSheet 75 = .ok (.ireturn, 1) := by decide +kernel
theorem dX0_tellOfSheet_76 : decode cX0_tellOfSheet 76 = .ok (.aload_n 0, 1) := by decide +kernel
theorem dX0_tellOfSheet_77 : decode cX0_tellOfSheet 77 = .ok (.getfield 21, 3) := by decide +kernel
theorem dX0_tellOfSheet_80 : decode cX0_tellOfSheet 80 = .ok (.getfield 120, 3) := by decide +kernel
theorem dX0_tellOfSheet_83 : decode cX0_tellOfSheet 83 = .ok (.iload_n 3, 1) := by decide +kernel
theorem dX0_tellOfSheet_84 : decode cX0_tellOfSheet 84 = .ok (.iaload, 1) := by decide +kernel
theorem dX0_tellOfSheet_85 : decode cX0_tellOfSheet 85 = .ok (.invokestatic 131, 3) := by decide +kernel
theorem dX0_tellOfSheet_88 : decode cX0_tellOfSheet 88 = .ok (.ireturn, 1) := by decide +kernel
theorem dX0_tellOfSheet_89 : decode cX0_tellOfSheet 89 = .ok (.aload_n 0, 1) := by decide +kernel
theorem dX0_tellOfSheet_90 : decode cX0_tellOfSheet 90 = .ok (.iload_n 3, 1) := by decide +kernel
theorem dX0_tellOfSheet_91 : decode cX0_tellOfSheet 91 = .ok (.invokevirtual 213, 3) := by decide +kernel
theorem dX0_tellOfSheet_94 : decode cX0_tellOfSheet 94 = .ok (.ifCond .eq 7, 3) := by decide +kernel
theorem dX0_tellOfSheet_97 : decode cX0_tellOfSheet 97 = .ok (.iconst 1, 1) := by decide +kernel
theorem dX0_tellOfSheet_98 : decode cX0_tellOfSheet 98 = .ok (.goto 4, 3) := by decide +kernel
theorem dX0_tellOfSheet_101 : decode cX0_tellOfSheet 101 = .ok (.iconst 0, 1) := by decide +kernel
theorem dX0_tellOfSheet_102 : decode cX0_tellOfSheet 102 = .ok (.ireturn, 1) := by decide +kernel
theorem dX0_tellOfSheet_103 : decode cX0_tellOfSheet 103 = .ok (.aload_n 0, 1) := by decide +kernel
theorem dX0_tellOfSheet_104 : decode cX0_tellOfSheet 104 = .ok (.iload_n 3, 1) := by decide +kernel
theorem dX0_tellOfSheet_105 : decode cX0_tellOfSheet 105 = .ok (.invokevirtual 225, 3) := by decide +kernel
theorem dX0_tellOfSheet_108 : decode cX0_tellOfSheet 108 = .ok (.ireturn, 1) := by decide +kernel
theorem dX0_tellOfSheet_109 : decode cX0_tellOfSheet 109 = .ok (.aload_n 0, 1) := by decide +kernel
theorem dX0_tellOfSheet_110 : decode cX0_tellOfSheet 110 = .ok (.iload_n 3, 1) := by decide +kernel
theorem dX0_tellOfSheet_111 : decode cX0_tellOfSheet 111 = .ok (.invokevirtual 114, 3) := by decide +kernel
theorem dX0_tellOfSheet_114 : decode cX0_tellOfSheet 114 = .ok (.ireturn, 1) := by decide +kernel
theorem dX0_tellOfSheet_115 : decode cX0_tellOfSheet 115 = .ok (.ldc 68, 2) := by decide +kernel
theorem dX0_tellOfSheet_117 : decode cX0_tellOfSheet 117 = .ok (.ireturn, 1) := by decide +kernel
theorem dX0_tellOfPaper_0 : decode cX0_tellOfPaper 0 = .ok (.aload_n 0, 1) := by decide +kernel
theorem dX0_tellOfPaper_1 : decode cX0_tellOfPaper 1 = .ok (.getfield 28, 3) := by decide +kernel
theorem dX0_tellOfPaper_4 : decode cX0_tellOfPaper 4 = .ok (.iload_n 1, 1) := by decide +kernel
theorem dX0_tellOfPaper_5 : decode cX0_tellOfPaper 5 = .ok (.invokevirtual 153, 3) := by decide +kernel
theorem dX0_tellOfPaper_8 : decode cX0_tellOfPaper 8 = .ok (.ifCond .ne 6, 3) := by decide +kernel
theorem dX0_tellOfPaper_11 : decode cX0_tellOfPaper 11 = .ok (.ldc 68, 2) := by decide +kernel
theorem dX0_tellOfPaper_13 : decode cX0_tellOfPaper 13 = .ok (.ireturn, 1) := by decide +kernel
theorem dX0_tellOfPaper_14 : decode cX0_tellOfPaper 14 = .ok (.iload_n 2, 1) := by decide +kernel
theorem dX0_tellOfPaper_15 : decode cX0_tellOfPaper 15 = .ok (.tableswitch 86 0 4 #[33, 43, 53, 63, 73], 33) := by decide +kernel
theorem dX0_tellOfPaper_48 : decode cX0_tellOfPaper 48 = .ok (.aload_n 0, 1) := by decide +kernel
theorem dX0_tellOfPaper_49 : decode cX0_tellOfPaper 49 = .ok (.getfield 28, 3) := by decide +kernel
theorem dX0_tellOfPaper_52 : decode cX0_tellOfPaper 52 = .ok (.getfield 100, 3) := by decide +kernel
theorem dX0_tellOfPaper_55 : decode cX0_tellOfPaper 55 = .ok (.iload_n 1, 1) := by decide +kernel
theorem dX0_tellOfPaper_56 : decode cX0_tellOfPaper 56 = .ok (.iaload, 1) := by decide +kernel
theorem dX0_tellOfPaper_57 : decode cX0_tellOfPaper 57 = .ok (.ireturn, 1) := by decide +kernel
theorem dX0_tellOfPaper_58 : decode cX0_tellOfPaper 58 = .ok (.aload_n 0, 1) := by decide +kernel
theorem dX0_tellOfPaper_59 : decode cX0_tellOfPaper 59 = .ok (.getfield 28, 3) := by decide +kernel
theorem dX0_tellOfPaper_62 : decode cX0_tellOfPaper 62 = .ok (.getfield 103, 3) := by decide +kernel
theorem dX0_tellOfPaper_65 : decode cX0_tellOfPaper 65 = .ok (.iload_n 1, 1) := by decide +kernel
theorem dX0_tellOfPaper_66 : decode cX0_tellOfPaper 66 = .ok (.iaload, 1) := by decide +kernel
theorem dX0_tellOfPaper_67 : decode cX0_tellOfPaper 67 = .ok (.ireturn, 1) := by decide +kernel
theorem dX0_tellOfPaper_68 : decode cX0_tellOfPaper 68 = .ok (.aload_n 0, 1) := by decide +kernel
theorem dX0_tellOfPaper_69 : decode cX0_tellOfPaper 69 = .ok (.getfield 28, 3) := by decide +kernel
theorem dX0_tellOfPaper_72 : decode cX0_tellOfPaper 72 = .ok (.getfield 228, 3) := by decide +kernel
theorem dX0_tellOfPaper_75 : decode cX0_tellOfPaper 75 = .ok (.iload_n 1, 1) := by decide +kernel
theorem dX0_tellOfPaper_76 : decode cX0_tellOfPaper 76 = .ok (.iaload, 1) := by decide +kernel
theorem dX0_tellOfPaper_77 : decode cX0_tellOfPaper 77 = .ok (.ireturn, 1) := by decide +kernel
theorem dX0_tellOfPaper_78 : decode cX0_tellOfPaper 78 = .ok (.aload_n 0, 1) := by decide +kernel
theorem dX0_tellOfPaper_79 : decode cX0_tellOfPaper 79 = .ok (.getfield 28, 3) := by decide +kernel
theorem dX0_tellOfPaper_82 : decode cX0_tellOfPaper 82 = .ok (.getfield 231, 3) := by decide +kernel
theorem dX0_tellOfPaper_85 : decode cX0_tellOfPaper 85 = .ok (.iload_n 1, 1) := by decide +kernel
theorem dX0_tellOfPaper_86 : decode cX0_tellOfPaper 86 = .ok (.iaload, 1) := by decide +kernel
theorem dX0_tellOfPaper_87 : decode cX0_tellOfPaper 87 = .ok (.ireturn, 1) := by decide +kernel
theorem dX0_tellOfPaper_88 : decode cX0_tellOfPaper 88 = .ok (.aload_n 0, 1) := by decide +kernel
theorem dX0_tellOfPaper_89 : decode cX0_tellOfPaper 89 = .ok (.getfield 28, 3) := by decide +kernel
theorem dX0_tellOfPaper_92 : decode cX0_tellOfPaper 92 = .ok (.iload_n 1, 1) := by decide +kernel
theorem dX0_tellOfPaper_93 : decode cX0_tellOfPaper 93 = .ok (.aload_n 0, 1) := by decide +kernel
theorem dX0_tellOfPaper_94 : decode cX0_tellOfPaper 94 = .ok (.invokevirtual 146, 3) := by decide +kernel
theorem dX0_tellOfPaper_97 : decode cX0_tellOfPaper 97 = .ok (.invokevirtual 216, 3) := by decide +kernel
theorem dX0_tellOfPaper_100 : decode cX0_tellOfPaper 100 = .ok (.ireturn, 1) := by decide +kernel
theorem dX0_tellOfPaper_101 : decode cX0_tellOfPaper 101 = .ok (.ldc 68, 2) := by decide +kernel
theorem dX0_tellOfPaper_103 : decode cX0_tellOfPaper 103 = .ok (.ireturn, 1) := by decide +kernel
theorem dX0_tellCount_0 : decode cX0_tellCount 0 = .ok (.iload_n 1, 1) := by decide +kernel
theorem dX0_tellCount_1 : decode cX0_tellCount 1 = .ok (.tableswitch 195 0 21 #[103, 111, 119, 127, 135, 140, 145, 150, 168, 175, 180, 195, 195, 195, 195, 195, 195, 195, 195, 195, 185, 190], 103) := by decide +kernel
theorem dX0_tellCount_104 : decode cX0_tellCount 104 = .ok (.aload_n 0, 1) := by decide +kernel
theorem dX0_tellCount_105 : decode cX0_tellCount 105 = .ok (.getfield 12, 3) := by decide +kernel
theorem dX0_tellCount_108 : decode cX0_tellCount 108 = .ok (.getfield 74, 3) := by decide +kernel
theorem dX0_tellCount_111 : decode cX0_tellCount 111 = .ok (.ireturn, 1) := by decide +kernel
theorem dX0_tellCount_112 : decode cX0_tellCount 112 = .ok (.aload_n 0, 1) := by decide +kernel
theorem dX0_tellCount_113 : decode cX0_tellCount 113 = .ok (.getfield 28, 3) := by decide +kernel
theorem dX0_tellCount_116 : decode cX0_tellCount 116 = .ok (.getfield 99, 3) := by decide +kernel
theorem dX0_tellCount_119 : decode cX0_tellCount 119 = .ok (.ireturn, 1) := by decide +kernel
theorem dX0_tellCount_120 : decode cX0_tellCount 120 = .ok (.aload_n 0, 1) := by decide +kernel
theorem dX0_tellCount_121 : decode cX0_tellCount 121 = .ok (.getfield 21, 3) := by decide +kernel
theorem dX0_tellCount_124 : decode cX0_tellCount 124 = .ok (.getfield 106, 3) := by decide +kernel
theorem dX0_tellCount_127 : decode cX0_tellCount 127 = .ok (.ireturn, 1) := by decide +kernel
theorem dX0_tellCount_128 : decode cX0_tellCount 128 = .ok (.aload_n 0, 1) := by decide +kernel
theorem dX0_tellCount_129 : decode cX0_tellCount 129 = .ok (.getfield 21, 3) := by decide +kernel
theorem dX0_tellCount_132 : decode cX0_tellCount 132 = .ok (.getfield 232, 3) := by decide +kernel
theorem dX0_tellCount_135 : decode cX0_tellCount 135 = .ok (.ireturn, 1) := by decide +kernel
theorem dX0_tellCount_136 : decode cX0_tellCount 136 = .ok (.aload_n 0, 1) := by decide +kernel
theorem dX0_tellCount_137 : decode cX0_tellCount 137 = .ok (.getfield 52, 3) := by decide +kernel
theorem dX0_tellCount_140 : decode cX0_tellCount 140 = .ok (.ireturn, 1) := by decide +kernel
theorem dX0_tellCount_141 : decode cX0_tellCount 141 = .ok (.aload_n 0, 1) := by decide +kernel
theorem dX0_tellCount_142 : decode cX0_tellCount 142 = .ok (.invokevirtual 146, 3) := by decide +kernel
theorem dX0_tellCount_145 : decode cX0_tellCount 145 = .ok (.ireturn, 1) := by decide +kernel
theorem dX0_tellCount_146 : decode cX0_tellCount 146 = .ok (.aload_n 0, 1) := by decide +kernel
theorem dX0_tellCount_147 : decode cX0_tellCount 147 = .ok (.invokevirtual 219, 3) := by decide +kernel
theorem dX0_tellCount_150 : decode cX0_tellCount 150 = .ok (.ireturn, 1) := by decide +kernel
theorem dX0_tellCount_151 : decode cX0_tellCount 151 = .ok (.aload_n 0, 1) := by decide +kernel
theorem dX0_tellCount_152 : decode cX0_tellCount 152 = .ok (.getfield 39, 3) := by decide +kernel
theorem dX0_tellCount_155 : decode cX0_tellCount 155 = .ok (.iconst (-1), 1) := by decide +kernel
theorem dX0_tellCount_156 : decode cX0_tellCount 156 = .ok (.if_icmp .ne 8, 3) := by decide +kernel
theorem dX0_tellCount_159 : decode cX0_tellCount 159 = .ok (.ldc 235, 2) := by decide +kernel
theorem dX0_tellCount_161 : decode cX0_tellCount 161 = .ok (.goto 7, 3) := by decide +kernel
theorem dX0_tellCount_164 : decode cX0_tellCount 164 = .ok (.aload_n 0, 1) := by decide +kernel
theorem dX0_tellCount_165 : decode cX0_tellCount 165 = .ok (.getfield 39, 3) := by decide +kernel
theorem dX0_tellCount_168 : decode cX0_tellCount 168 = .ok (.ireturn, 1) := by decide +kernel
theorem dX0_tellCount_169 : decode cX0_tellCount 169 = .ok (.iconst 3, 1) := by decide +kernel
theorem dX0_tellCount_170 : decode cX0_tellCount 170 = .ok (.aload_n 0, 1) := by decide +kernel
theorem dX0_tellCount_171 : decode cX0_tellCount 171 = .ok (.getfield 55, 3) := by decide +kernel
theorem dX0_tellCount_174 : decode cX0_tellCount 174 = .ok (.isub, 1) := by decide +kernel
theorem dX0_tellCount_175 : decode cX0_tellCount 175 = .ok (.ireturn, 1) := by decide +kernel
theorem dX0_tellCount_176 : decode cX0_tellCount 176 = .ok (.aload_n 0, 1) := by decide +kernel
theorem dX0_tellCount_177 : decode cX0_tellCount 177 = .ok (.getfield 58, 3) := by decide +kernel
theorem dX0_tellCount_180 : decode cX0_tellCount 180 = .ok (.ireturn, 1) := by decide +kernel
theorem dX0_tellCount_181 : decode cX0_tellCount 181 = .ok (.aload_n 0, 1) := by decide +kernel
theorem dX0_tellCount_182 : decode cX0_tellCount 182 = .ok (.getfield 61, 3) := by decide +kernel
theorem dX0_tellCount_185 : decode cX0_tellCount 185 = .ok (.ireturn, 1) := by decide +kernel
theorem dX0_tellCount_186 : decode cX0_tellCount 186 = .ok (.aload_n 0, 1) := by decide +kernel
theorem dX0_tellCount_187 : decode cX0_tellCount 187 = .ok (.getfield 32, 3) := by decide +kernel
theorem dX0_tellCount_190 : decode cX0_tellCount 190 = .ok (.ireturn, 1) := by decide +kernel
theorem dX0_tellCount_191 : decode cX0_tellCount 191 = .ok (.aload_n 0, 1) := by decide +kernel
theorem dX0_tellCount_192 : decode cX0_tellCount 192 = .ok (.getfield 36, 3) := by decide +kernel
theorem dX0_tellCount_195 : decode cX0_tellCount 195 = .ok (.ireturn, 1) := by decide +kernel
theorem dX0_tellCount_196 : decode cX0_tellCount 196 = .ok (.ldc 68, 2) := by decide +kernel
theorem dX0_tellCount_198 : decode cX0_tellCount 198 = .ok (.ireturn, 1) := by decide +kernel
theorem dX1_init_0 : decode cX1_init 0 = .ok (.aload_n 0, 1) := by decide +kernel
theorem dX1_init_1 : decode cX1_init 1 = .ok (.invokespecial 3, 3) := by decide +kernel
theorem dX1_init_4 : decode cX1_init 4 = .ok (.aload_n 0, 1) := by decide +kernel
theorem dX1_init_5 : decode cX1_init 5 = .ok (.iconst 5, 1) := by decide +kernel
theorem dX1_init_6 : decode cX1_init 6 = .ok (.anewarray 11, 3) := by decide +kernel
theorem dX1_init_9 : decode cX1_init 9 = .ok (.putfield 13, 3) := by decide +kernel
theorem dX1_init_12 : decode cX1_init 12 = .ok (.iconst 0, 1) := by decide +kernel
theorem dX1_init_13 : decode cX1_init 13 = .ok (.istore_n 1, 1) := by decide +kernel
theorem dX1_init_14 : decode cX1_init 14 = .ok (.iload_n 1, 1) := by decide +kernel
theorem dX1_init_15 : decode cX1_init 15 = .ok (.aload_n 0, 1) := by decide +kernel
theorem dX1_init_16 : decode cX1_init 16 = .ok (.getfield 13, 3) := by decide +kernel
theorem dX1_init_19 : decode cX1_init 19 = .ok (.arraylength, 1) := by decide +kernel
theorem dX1_init_20 : decode cX1_init 20 = .ok (.if_icmp .ge 22, 3) := by decide +kernel
theorem dX1_init_23 : decode cX1_init 23 = .ok (.aload_n 0, 1) := by decide +kernel
theorem dX1_init_24 : decode cX1_init 24 = .ok (.getfield 13, 3) := by decide +kernel
theorem dX1_init_27 : decode cX1_init 27 = .ok (.iload_n 1, 1) := by decide +kernel
theorem dX1_init_28 : decode cX1_init 28 = .ok (.new 11, 3) := by decide +kernel
theorem dX1_init_31 : decode cX1_init 31 = .ok (.dup, 1) := by decide +kernel
theorem dX1_init_32 : decode cX1_init 32 = .ok (.invokespecial 17, 3) := by decide +kernel
theorem dX1_init_35 : decode cX1_init 35 = .ok (.aastore, 1) := by decide +kernel
theorem dX1_init_36 : decode cX1_init 36 = .ok (.iinc 1 1, 3) := by decide +kernel
theorem dX1_init_39 : decode cX1_init 39 = .ok (.goto (-25), 3) := by decide +kernel
theorem dX1_init_42 : decode cX1_init 42 = .ok (.return_, 1) := by decide +kernel
theorem dX1_prepare_0 : decode cX1_prepare 0 = .ok (.aload_n 0, 1) := by decide +kernel
theorem dX1_prepare_1 : decode cX1_prepare 1 = .ok (.getfield 13, 3) := by decide +kernel
theorem dX1_prepare_4 : decode cX1_prepare 4 = .ok (.aload_n 0, 1) := by decide +kernel
theorem dX1_prepare_5 : decode cX1_prepare 5 = .ok (.getfield 18, 3) := by decide +kernel
theorem dX1_prepare_8 : decode cX1_prepare 8 = .ok (.aload_n 0, 1) := by decide +kernel
theorem dX1_prepare_9 : decode cX1_prepare 9 = .ok (.getfield 22, 3) := by decide +kernel
theorem dX1_prepare_12 : decode cX1_prepare 12 = .ok (.iadd, 1) := by decide +kernel
theorem dX1_prepare_13 : decode cX1_prepare 13 = .ok (.iconst 5, 1) := by decide +kernel
theorem dX1_prepare_14 : decode cX1_prepare 14 = .ok (.irem, 1) := by decide +kernel
theorem dX1_prepare_15 : decode cX1_prepare 15 = .ok (.aaload, 1) := by decide +kernel
theorem dX1_prepare_16 : decode cX1_prepare 16 = .ok (.astore_n 2, 1) := by decide +kernel
theorem dX1_prepare_17 : decode cX1_prepare 17 = .ok (.aload_n 2, 1) := by decide +kernel
theorem dX1_prepare_18 : decode cX1_prepare 18 = .ok (.ifnull 8, 3) := by decide +kernel
theorem dX1_prepare_21 : decode cX1_prepare 21 = .ok (.aload_n 2, 1) := by decide +kernel
theorem dX1_prepare_22 : decode cX1_prepare 22 = .ok (.aload_n 1, 1) := by decide +kernel
theorem dX1_prepare_23 : decode cX1_prepare 23 = .ok (.invokevirtual 25, 3) := by decide +kernel
theorem dX1_prepare_26 : decode cX1_prepare 26 = .ok (.return_, 1) := by decide +kernel
theorem dX1_settle_0 : decode cX1_settle 0 = .ok (.iload_n 1, 1) := by decide +kernel
theorem dX1_settle_1 : decode cX1_settle 1 = .ok (.ifCond .lt 24, 3) := by decide +kernel
theorem dX1_settle_4 : decode cX1_settle 4 = .ok (.aload_n 0, 1) := by decide +kernel
theorem dX1_settle_5 : decode cX1_settle 5 = .ok (.getfield 22, 3) := by decide +kernel
theorem dX1_settle_8 : decode cX1_settle 8 = .ok (.iconst 4, 1) := by decide +kernel
theorem dX1_settle_9 : decode cX1_settle 9 = .ok (.if_icmp .ge 16, 3) := by decide +kernel
theorem dX1_settle_12 : decode cX1_settle 12 = .ok (.aload_n 0, 1) := by decide +kernel
theorem dX1_settle_13 : decode cX1_settle 13 = .ok (.dup, 1) := by decide +kernel
theorem dX1_settle_14 : decode cX1_settle 14 = .ok (.getfield 22, 3) := by decide +kernel
theorem dX1_settle_17 : decode cX1_settle 17 = .ok (.iconst 1, 1) := by decide +kernel
theorem dX1_settle_18 : decode cX1_settle 18 = .ok (.iadd, 1) := by decide +kernel
theorem dX1_settle_19 : decode cX1_settle 19 = .ok (.putfield 22, 3) := by decide +kernel
theorem dX1_settle_22 : decode cX1_settle 22 = .ok (.goto 19, 3) := by decide +kernel
theorem dX1_settle_25 : decode cX1_settle 25 = .ok (.iload_n 1, 1) := by decide +kernel
theorem dX1_settle_26 : decode cX1_settle 26 = .ok (.ifCond .lt 15, 3) := by decide +kernel
theorem dX1_settle_29 : decode cX1_settle 29 = .ok (.aload_n 0, 1) := by decide +kernel
theorem dX1_settle_30 : decode cX1_settle 30 = .ok (.aload_n 0, 1) := by decide +kernel
theorem dX1_settle_31 : decode cX1_settle 31 = .ok (.getfield 18, 3) := by decide +kernel
theorem dX1_settle_34 : decode cX1_settle 34 = .ok (.iconst 1, 1) := by decide +kernel
theorem dX1_settle_35 : decode cX1_settle 35 = .ok (.iadd, 1) := by decide +kernel
theorem dX1_settle_36 : decode cX1_settle 36 = .ok (.iconst 5, 1) := by decide +kernel
theorem dX1_settle_37 : decode cX1_settle 37 = .ok (.irem, 1) := by decide +kernel
theorem dX1_settle_38 : decode cX1_settle 38 = .ok (.putfield 18, 3) := by decide +kernel
theorem dX1_settle_41 : decode cX1_settle 41 = .ok (.iload_n 1, 1) := by decide +kernel
theorem dX1_settle_42 : decode cX1_settle 42 = .ok (.ireturn, 1) := by decide +kernel
theorem dX1_restore_0 : decode cX1_restore 0 = .ok (.aload_n 0, 1) := by decide +kernel
theorem dX1_restore_1 : decode cX1_restore 1 = .ok (.getfield 22, 3) := by decide +kernel
theorem dX1_restore_4 : decode cX1_restore 4 = .ok (.ifCond .gt 6, 3) := by decide +kernel
theorem dX1_restore_7 : decode cX1_restore 7 = .ok (.ldc 29, 2) := by decide +kernel
theorem dX1_restore_9 : decode cX1_restore 9 = .ok (.ireturn, 1) := by decide +kernel
theorem dX1_restore_10 : decode cX1_restore 10 = .ok (.aload_n 0, 1) := by decide +kernel
theorem dX1_restore_11 : decode cX1_restore 11 = .ok (.dup, 1) := by decide +kernel
theorem dX1_restore_12 : decode cX1_restore 12 = .ok (.getfield 22, 3) := by decide +kernel
theorem dX1_restore_15 : decode cX1_restore 15 = .ok (.iconst 1, 1) := by decide +kernel
theorem dX1_restore_16 : decode cX1_restore 16 = .ok (.isub, 1) := by decide +kernel
theorem dX1_restore_17 : decode cX1_restore 17 = .ok (.putfield 22, 3) := by decide +kernel
theorem dX1_restore_20 : decode cX1_restore 20 = .ok (.aload_n 0, 1) := by decide +kernel
theorem dX1_restore_21 : decode cX1_restore 21 = .ok (.getfield 13, 3) := by decide +kernel
theorem dX1_restore_24 : decode cX1_restore 24 = .ok (.aload_n 0, 1) := by decide +kernel
theorem dX1_restore_25 : decode cX1_restore 25 = .ok (.getfield 18, 3) := by decide +kernel
theorem dX1_restore_28 : decode cX1_restore 28 = .ok (.aload_n 0, 1) := by decide +kernel
theorem dX1_restore_29 : decode cX1_restore 29 = .ok (.getfield 22, 3) := by decide +kernel
theorem dX1_restore_32 : decode cX1_restore 32 = .ok (.iadd, 1) := by decide +kernel
theorem dX1_restore_33 : decode cX1_restore 33 = .ok (.iconst 5, 1) := by decide +kernel
theorem dX1_restore_34 : decode cX1_restore 34 = .ok (.irem, 1) := by decide +kernel
theorem dX1_restore_35 : decode cX1_restore 35 = .ok (.aaload, 1) := by decide +kernel
theorem dX1_restore_36 : decode cX1_restore 36 = .ok (.astore_n 2, 1) := by decide +kernel
theorem dX1_restore_37 : decode cX1_restore 37 = .ok (.aload_n 2, 1) := by decide +kernel
theorem dX1_restore_38 : decode cX1_restore 38 = .ok (.ifnull 8, 3) := by decide +kernel
theorem dX1_restore_41 : decode cX1_restore 41 = .ok (.aload_n 1, 1) := by decide +kernel
theorem dX1_restore_42 : decode cX1_restore 42 = .ok (.aload_n 2, 1) := by decide +kernel
theorem dX1_restore_43 : decode cX1_restore 43 = .ok (.invokevirtual 25, 3) := by decide +kernel
theorem dX1_restore_46 : decode cX1_restore 46 = .ok (.aload_n 0, 1) := by decide +kernel
theorem dX1_restore_47 : decode cX1_restore 47 = .ok (.getfield 22, 3) := by decide +kernel
theorem dX1_restore_50 : decode cX1_restore 50 = .ok (.ireturn, 1) := by decide +kernel
theorem dX2_init_0 : decode cX2_init 0 = .ok (.aload_n 0, 1) := by decide +kernel
theorem dX2_init_1 : decode cX2_init 1 = .ok (.invokespecial 3, 3) := by decide +kernel
theorem dX2_init_4 : decode cX2_init 4 = .ok (.aload_n 0, 1) := by decide +kernel
theorem dX2_init_5 : decode cX2_init 5 = .ok (.iconst 4, 1) := by decide +kernel
theorem dX2_init_6 : decode cX2_init 6 = .ok (.newarray .int, 2) := by decide +kernel
theorem dX2_init_8 : decode cX2_init 8 = .ok (.putfield 9, 3) := by decide +kernel
theorem dX2_init_11 : decode cX2_init 11 = .ok (.aload_n 0, 1) := by decide +kernel
theorem dX2_init_12 : decode cX2_init 12 = .ok (.iconst 4, 1) := by decide +kernel
theorem dX2_init_13 : decode cX2_init 13 = .ok (.newarray .int, 2) := by decide +kernel
theorem dX2_init_15 : decode cX2_init 15 = .ok (.putfield 15, 3) := by decide +kernel
theorem dX2_init_18 : decode cX2_init 18 = .ok (.aload_n 0, 1) := by decide +kernel
theorem dX2_init_19 : decode cX2_init 19 = .ok (.iconst 4, 1) := by decide +kernel
theorem dX2_init_20 : decode cX2_init 20 = .ok (.newarray .int, 2) := by decide +kernel
theorem dX2_init_22 : decode cX2_init 22 = .ok (.putfield 18, 3) := by decide +kernel
theorem dX2_init_25 : decode cX2_init 25 = .ok (.aload_n 0, 1) := by decide +kernel
theorem dX2_init_26 : decode cX2_init 26 = .ok (.iconst 4, 1) := by decide +kernel
theorem dX2_init_27 : decode cX2_init 27 = .ok (.newarray .int, 2) := by decide +kernel
theorem dX2_init_29 : decode cX2_init 29 = .ok (.putfield 21, 3) := by decide +kernel
theorem dX2_init_32 : decode cX2_init 32 = .ok (.aload_n 0, 1) := by decide +kernel
theorem dX2_init_33 : decode cX2_init 33 = .ok (.iconst 4, 1) := by decide +kernel
theorem dX2_init_34 : decode cX2_init 34 = .ok (.newarray .int, 2) := by decide +kernel
theorem dX2_init_36 : decode cX2_init 36 = .ok (.putfield 24, 3) := by decide +kernel
theorem dX2_init_39 : decode cX2_init 39 = .ok (.aload_n 0, 1) := by decide +kernel
theorem dX2_init_40 : decode cX2_init 40 = .ok (.iconst 4, 1) := by decide +kernel
theorem dX2_init_41 : decode cX2_init 41 = .ok (.newarray .int, 2) := by decide +kernel
theorem dX2_init_43 : decode cX2_init 43 = .ok (.putfield 27, 3) := by decide +kernel
theorem dX2_init_46 : decode cX2_init 46 = .ok (.return_, 1) := by decide +kernel
theorem dX2_copyFrom_0 : decode cX2_copyFrom 0 = .ok (.aload_n 0, 1) := by decide +kernel
theorem dX2_copyFrom_1 : decode cX2_copyFrom 1 = .ok (.aload_n 1, 1) := by decide +kernel
theorem dX2_copyFrom_2 : decode cX2_copyFrom 2 = .ok (.getfield 30, 3) := by decide +kernel
theorem dX2_copyFrom_5 : decode cX2_copyFrom 5 = .ok (.putfield 30, 3) := by decide +kernel
theorem dX2_copyFrom_8 : decode cX2_copyFrom 8 = .ok (.aload_n 1, 1) := by decide +kernel
theorem dX2_copyFrom_9 : decode cX2_copyFrom 9 = .ok (.getfield 9, 3) := by decide +kernel
theorem dX2_copyFrom_12 : decode cX2_copyFrom 12 = .ok (.aload_n 0, 1) := by decide +kernel
theorem dX2_copyFrom_13 : decode cX2_copyFrom 13 = .ok (.getfield 9, 3) := by decide +kernel
theorem dX2_copyFrom_16 : decode cX2_copyFrom 16 = .ok (.invokestatic 34, 3) := by decide +kernel
theorem dX2_copyFrom_19 : decode cX2_copyFrom 19 = .ok (.aload_n 1, 1) := by decide +kernel
theorem dX2_copyFrom_20 : decode cX2_copyFrom 20 = .ok (.getfield 15, 3) := by decide +kernel
theorem dX2_copyFrom_23 : decode cX2_copyFrom 23 = .ok (.aload_n 0, 1) := by decide +kernel
theorem dX2_copyFrom_24 : decode cX2_copyFrom 24 = .ok (.getfield 15, 3) := by decide +kernel
theorem dX2_copyFrom_27 : decode cX2_copyFrom 27 = .ok (.invokestatic 34, 3) := by decide +kernel
theorem dX2_copyFrom_30 : decode cX2_copyFrom 30 = .ok (.aload_n 1, 1) := by decide +kernel
theorem dX2_copyFrom_31 : decode cX2_copyFrom 31 = .ok (.getfield 18, 3) := by decide +kernel
theorem dX2_copyFrom_34 : decode cX2_copyFrom 34 = .ok (.aload_n 0, 1) := by decide +kernel
theorem dX2_copyFrom_35 : decode cX2_copyFrom 35 = .ok (.getfield 18, 3) := by decide +kernel
theorem dX2_copyFrom_38 : decode cX2_copyFrom 38 = .ok (.invokestatic 34, 3) := by decide +kernel
theorem dX2_copyFrom_41 : decode cX2_copyFrom 41 = .ok (.aload_n 1, 1) := by decide +kernel
theorem dX2_copyFrom_42 : decode cX2_copyFrom 42 = .ok (.getfield 21, 3) := by decide +kernel
theorem dX2_copyFrom_45 : decode cX2_copyFrom 45 = .ok (.aload_n 0, 1) := by decide +kernel
theorem dX2_copyFrom_46 : decode cX2_copyFrom 46 = .ok (.getfield 21, 3) := by decide +kernel
theorem dX2_copyFrom_49 : decode cX2_copyFrom 49 = .ok (.invokestatic 34, 3) := by decide +kernel
theorem dX2_copyFrom_52 : decode cX2_copyFrom 52 = .ok (.aload_n 1, 1) := by decide +kernel
theorem dX2_copyFrom_53 : decode cX2_copyFrom 53 = .ok (.getfield 24, 3) := by decide +kernel
theorem dX2_copyFrom_56 : decode cX2_copyFrom 56 = .ok (.aload_n 0, 1) := by decide +kernel
theorem dX2_copyFrom_57 : decode cX2_copyFrom 57 = .ok (.getfield 24, 3) := by decide +kernel
theorem dX2_copyFrom_60 : decode cX2_copyFrom 60 = .ok (.invokestatic 34, 3) := by decide +kernel
theorem dX2_copyFrom_63 : decode cX2_copyFrom 63 = .ok (.aload_n 1, 1) := by decide +kernel
theorem dX2_copyFrom_64 : decode cX2_copyFrom 64 = .ok (.getfield 27, 3) := by decide +kernel
theorem dX2_copyFrom_67 : decode cX2_copyFrom 67 = .ok (.aload_n 0, 1) := by decide +kernel
theorem dX2_copyFrom_68 : decode cX2_copyFrom 68 = .ok (.getfield 27, 3) := by decide +kernel
theorem dX2_copyFrom_71 : decode cX2_copyFrom 71 = .ok (.invokestatic 34, 3) := by decide +kernel
theorem dX2_copyFrom_74 : decode cX2_copyFrom 74 = .ok (.return_, 1) := by decide +kernel
theorem dX2_has_0 : decode cX2_has 0 = .ok (.iload_n 1, 1) := by decide +kernel
theorem dX2_has_1 : decode cX2_has 1 = .ok (.ifCond .lt 15, 3) := by decide +kernel
theorem dX2_has_4 : decode cX2_has 4 = .ok (.iload_n 1, 1) := by decide +kernel
theorem dX2_has_5 : decode cX2_has 5 = .ok (.aload_n 0, 1) := by decide +kernel
theorem dX2_has_6 : decode cX2_has 6 = .ok (.getfield 30, 3) := by decide +kernel
theorem dX2_has_9 : decode cX2_has 9 = .ok (.if_icmp .ge 7, 3) := by decide +kernel
theorem dX2_has_12 : decode cX2_has 12 = .ok (.iconst 1, 1) := by decide +kernel
theorem dX2_has_13 : decode cX2_has 13 = .ok (.goto 4, 3) := by decide +kernel
theorem dX2_has_16 : decode cX2_has 16 = .ok (.iconst 0, 1) := by decide +kernel
theorem dX2_has_17 : decode cX2_has 17 = .ok (.ireturn, 1) := by decide +kernel
theorem dX2_peopleBoughtOn_0 : decode cX2_peopleBoughtOn 0 = .ok (.aload_n 0, 1) := by decide +kernel
theorem dX2_peopleBoughtOn_1 : decode cX2_peopleBoughtOn 1 = .ok (.getfield 24, 3) := by decide +kernel
theorem dX2_peopleBoughtOn_4 : decode cX2_peopleBoughtOn 4 = .ok (.iload_n 1, 1) := by decide +kernel
theorem dX2_peopleBoughtOn_5 : decode cX2_peopleBoughtOn 5 = .ok (.iaload, 1) := by decide +kernel
theorem dX2_peopleBoughtOn_6 : decode cX2_peopleBoughtOn 6 = .ok (.iload_n 2, 1) := by decide +kernel
theorem dX2_peopleBoughtOn_7 : decode cX2_peopleBoughtOn 7 = .ok (.if_icmp .ne 12, 3) := by decide +kernel
theorem dX2_peopleBoughtOn_10 : decode cX2_peopleBoughtOn 10 = .ok (.aload_n 0, 1) := by decide +kernel
theorem dX2_peopleBoughtOn_11 : decode cX2_peopleBoughtOn 11 = .ok (.getfield 27, 3) := by decide +kernel
theorem dX2_peopleBoughtOn_14 : decode cX2_peopleBoughtOn 14 = .ok (.iload_n 1, 1) := by decide +kernel
theorem dX2_peopleBoughtOn_15 : decode cX2_peopleBoughtOn 15 = .ok (.iaload, 1) := by decide +kernel
theorem dX2_peopleBoughtOn_16 : decode cX2_peopleBoughtOn 16 = .ok (.goto 4, 3) := by decide +kernel
theorem dX2_peopleBoughtOn_19 : decode cX2_peopleBoughtOn 19 = .ok (.iconst 0, 1) := by decide +kernel
theorem dX2_peopleBoughtOn_20 : decode cX2_peopleBoughtOn 20 = .ok (.ireturn, 1) := by decide +kernel
theorem dX2_buy_0 : decode cX2_buy 0 = .ok (.aload_n 0, 1) := by decide +kernel
theorem dX2_buy_1 : decode cX2_buy 1 = .ok (.getfield 27, 3) := by decide +kernel
theorem dX2_buy_4 : decode cX2_buy 4 = .ok (.iload_n 1, 1) := by decide +kernel
theorem dX2_buy_5 : decode cX2_buy 5 = .ok (.aload_n 0, 1) := by decide +kernel
theorem dX2_buy_6 : decode cX2_buy 6 = .ok (.iload_n 1, 1) := by decide +kernel
theorem dX2_buy_7 : decode cX2_buy 7 = .ok (.iload 4, 2) := by decide +kernel
theorem dX2_buy_9 : decode cX2_buy 9 = .ok (.invokevirtual 38, 3) := by decide +kernel
theorem dX2_buy_12 : decode cX2_buy 12 = .ok (.iconst 1, 1) := by decide +kernel
theorem dX2_buy_13 : decode cX2_buy 13 = .ok (.iload_n 2, 1) := by decide +kernel
theorem dX2_buy_14 : decode cX2_buy 14 = .ok (.ishl, 1) := by decide +kernel
theorem dX2_buy_15 : decode cX2_buy 15 = .ok (.ior, 1) := by decide +kernel
theorem dX2_buy_16 : decode cX2_buy 16 = .ok (.iastore, 1) := by decide +kernel
theorem dX2_buy_17 : decode cX2_buy 17 = .ok (.aload_n 0, 1) := by decide +kernel
theorem dX2_buy_18 : decode cX2_buy 18 = .ok (.getfield 24, 3) := by decide +kernel
theorem dX2_buy_21 : decode cX2_buy 21 = .ok (.iload_n 1, 1) := by decide +kernel
theorem dX2_buy_22 : decode cX2_buy 22 = .ok (.iload 4, 2) := by decide +kernel
theorem dX2_buy_24 : decode cX2_buy 24 = .ok (.iastore, 1) := by decide +kernel
theorem dX2_buy_25 : decode cX2_buy 25 = .ok (.aload_n 0, 1) := by decide +kernel
theorem dX2_buy_26 : decode cX2_buy 26 = .ok (.getfield 18, 3) := by decide +kernel
theorem dX2_buy_29 : decode cX2_buy 29 = .ok (.iload_n 1, 1) := by decide +kernel
theorem dX2_buy_30 : decode cX2_buy 30 = .ok (.dup2, 1) := by decide +kernel
theorem dX2_buy_31 : decode cX2_buy 31 = .ok (.iaload, 1) := by decide +kernel
theorem dX2_buy_32 : decode cX2_buy 32 = .ok (.iconst 1, 1) := by decide +kernel
theorem dX2_buy_33 : decode cX2_buy 33 = .ok (.iadd, 1) := by decide +kernel
theorem dX2_buy_34 : decode cX2_buy 34 = .ok (.iastore, 1) := by decide +kernel
theorem dX2_buy_35 : decode cX2_buy 35 = .ok (.aload_n 0, 1) := by decide +kernel
theorem dX2_buy_36 : decode cX2_buy 36 = .ok (.getfield 21, 3) := by decide +kernel
theorem dX2_buy_39 : decode cX2_buy 39 = .ok (.iload_n 1, 1) := by decide +kernel
theorem dX2_buy_40 : decode cX2_buy 40 = .ok (.dup2, 1) := by decide +kernel
theorem dX2_buy_41 : decode cX2_buy 41 = .ok (.iaload, 1) := by decide +kernel
theorem dX2_buy_42 : decode cX2_buy 42 = .ok (.iload_n 3, 1) := by decide +kernel
theorem dX2_buy_43 : decode cX2_buy 43 = .ok (.iadd, 1) := by decide +kernel
theorem dX2_buy_44 : decode cX2_buy 44 = .ok (.iastore, 1) := by decide +kernel
theorem dX2_buy_45 : decode cX2_buy 45 = .ok (.return_, 1) := by decide +kernel
theorem dX3_init_0 : decode cX3_init 0 = .ok (.aload_n 0, 1) := by decide +kernel
theorem dX3_init_1 : decode cX3_init 1 = .ok (.invokespecial 3, 3) := by decide +kernel
theorem dX3_init_4 : decode cX3_init 4 = .ok (.aload_n 0, 1) := by decide +kernel
theorem dX3_init_5 : decode cX3_init 5 = .ok (.bipush 6, 2) := by decide +kernel
theorem dX3_init_7 : decode cX3_init 7 = .ok (.newarray .int, 2) := by decide +kernel
theorem dX3_init_9 : decode cX3_init 9 = .ok (.putfield 9, 3) := by decide +kernel
theorem dX3_init_12 : decode cX3_init 12 = .ok (.aload_n 0, 1) := by decide +kernel
theorem dX3_init_13 : decode cX3_init 13 = .ok (.bipush 6, 2) := by decide +kernel
theorem dX3_init_15 : decode cX3_init 15 = .ok (.newarray .int, 2) := by decide +kernel
theorem dX3_init_17 : decode cX3_init 17 = .ok (.putfield 15, 3) := by decide +kernel
theorem dX3_init_20 : decode cX3_init 20 = .ok (.aload_n 0, 1) := by decide +kernel
theorem dX3_init_21 : decode cX3_init 21 = .ok (.bipush 6, 2) := by decide +kernel
theorem dX3_init_23 : decode cX3_init 23 = .ok (.newarray .int, 2) := by decide +kernel
theorem dX3_init_25 : decode cX3_init 25 = .ok (.putfield 18, 3) := by decide +kernel
theorem dX3_init_28 : decode cX3_init 28 = .ok (.aload_n 0, 1) := by decide +kernel
theorem dX3_init_29 : decode cX3_init 29 = .ok (.bipush 6, 2) := by decide +kernel
theorem dX3_init_31 : decode cX3_init 31 = .ok (.newarray .int, 2) := by decide +kernel
theorem dX3_init_33 : decode cX3_init 33 = .ok (.putfield 21, 3) := by decide +kernel
theorem dX3_init_36 : decode cX3_init 36 = .ok (.aload_n 0, 1) := by decide +kernel
theorem dX3_init_37 : decode cX3_init 37 = .ok (.bipush 6, 2) := by decide +kernel
theorem dX3_init_39 : decode cX3_init 39 = .ok (.newarray .int, 2) := by decide +kernel
theorem dX3_init_41 : decode cX3_init 41 = .ok (.putfield 24, 3) := by decide +kernel
theorem dX3_init_44 : decode cX3_init 44 = .ok (.aload_n 0, 1) := by decide +kernel
theorem dX3_init_45 : decode cX3_init 45 = .ok (.bipush 6, 2) := by decide +kernel
theorem dX3_init_47 : decode cX3_init 47 = .ok (.newarray .int, 2) := by decide +kernel
theorem dX3_init_49 : decode cX3_init 49 = .ok (.putfield 27, 3) := by decide +kernel
theorem dX3_init_52 : decode cX3_init 52 = .ok (.aload_n 0, 1) := by decide +kernel
theorem dX3_init_53 : decode cX3_init 53 = .ok (.bipush 72, 2) := by decide +kernel
theorem dX3_init_55 : decode cX3_init 55 = .ok (.newarray .int, 2) := by decide +kernel
theorem dX3_init_57 : decode cX3_init 57 = .ok (.putfield 30, 3) := by decide +kernel
theorem dX3_init_60 : decode cX3_init 60 = .ok (.iconst 0, 1) := by decide +kernel
theorem dX3_init_61 : decode cX3_init 61 = .ok (.istore_n 1, 1) := by decide +kernel
theorem dX3_init_62 : decode cX3_init 62 = .ok (.iload_n 1, 1) := by decide +kernel
theorem dX3_init_63 : decode cX3_init 63 = .ok (.aload_n 0, 1) := by decide +kernel
theorem dX3_init_64 : decode cX3_init 64 = .ok (.getfield 24, 3) := by decide +kernel
theorem dX3_init_67 : decode cX3_init 67 = .ok (.arraylength, 1) := by decide +kernel
theorem dX3_init_68 : decode cX3_init 68 = .ok (.if_icmp .ge 16, 3) := by decide +kernel
theorem dX3_init_71 : decode cX3_init 71 = .ok (.aload_n 0, 1) := by decide +kernel
theorem dX3_init_72 : decode cX3_init 72 = .ok (.getfield 24, 3) := by decide +kernel
theorem dX3_init_75 : decode cX3_init 75 = .ok (.iload_n 1, 1) := by decide +kernel
theorem dX3_init_76 : decode cX3_init 76 = .ok (.iconst (-1), 1) := by decide +kernel
theorem dX3_init_77 : decode cX3_init 77 = .ok (.iastore, 1) := by decide +kernel
theorem dX3_init_78 : decode cX3_init 78 = .ok (.iinc 1 1, 3) := by decide +kernel
theorem dX3_init_81 : decode cX3_init 81 = .ok (.goto (-19), 3) := by decide +kernel
theorem dX3_init_84 : decode cX3_init 84 = .ok (.iconst 0, 1) := by decide +kernel
theorem dX3_init_85 : decode cX3_init 85 = .ok (.istore_n 1, 1) := by decide +kernel
theorem dX3_init_86 : decode cX3_init 86 = .ok (.iload_n 1, 1) := by decide +kernel
theorem dX3_init_87 : decode cX3_init 87 = .ok (.aload_n 0, 1) := by decide +kernel
theorem dX3_init_88 : decode cX3_init 88 = .ok (.getfield 30, 3) := by decide +kernel
theorem dX3_init_91 : decode cX3_init 91 = .ok (.arraylength, 1) := by decide +kernel
theorem dX3_init_92 : decode cX3_init 92 = .ok (.if_icmp .ge 16, 3) := by decide +kernel
theorem dX3_init_95 : decode cX3_init 95 = .ok (.aload_n 0, 1) := by decide +kernel
theorem dX3_init_96 : decode cX3_init 96 = .ok (.getfield 30, 3) := by decide +kernel
theorem dX3_init_99 : decode cX3_init 99 = .ok (.iload_n 1, 1) := by decide +kernel
theorem dX3_init_100 : decode cX3_init 100 = .ok (.iconst (-1), 1) := by decide +kernel
theorem dX3_init_101 : decode cX3_init 101 = .ok (.iastore, 1) := by decide +kernel
theorem dX3_init_102 : decode cX3_init 102 = .ok (.iinc 1 1, 3) := by decide +kernel
theorem dX3_init_105 : decode cX3_init 105 = .ok (.goto (-19), 3) := by decide +kernel
theorem dX3_init_108 : decode cX3_init 108 = .ok (.return_, 1) := by decide +kernel
theorem dX3_copyFrom_0 : decode cX3_copyFrom 0 = .ok (.aload_n 0, 1) := by decide +kernel
theorem dX3_copyFrom_1 : decode cX3_copyFrom 1 = .ok (.aload_n 1, 1) := by decide +kernel
theorem dX3_copyFrom_2 : decode cX3_copyFrom 2 = .ok (.getfield 33, 3) := by decide +kernel
theorem dX3_copyFrom_5 : decode cX3_copyFrom 5 = .ok (.putfield 33, 3) := by decide +kernel
theorem dX3_copyFrom_8 : decode cX3_copyFrom 8 = .ok (.aload_n 1, 1) := by decide +kernel
theorem dX3_copyFrom_9 : decode cX3_copyFrom 9 = .ok (.getfield 9, 3) := by decide +kernel
theorem dX3_copyFrom_12 : decode cX3_copyFrom 12 = .ok (.aload_n 0, 1) := by decide +kernel
theorem dX3_copyFrom_13 : decode cX3_copyFrom 13 = .ok (.getfield 9, 3) := by decide +kernel
theorem dX3_copyFrom_16 : decode cX3_copyFrom 16 = .ok (.invokestatic 37, 3) := by decide +kernel
theorem dX3_copyFrom_19 : decode cX3_copyFrom 19 = .ok (.aload_n 1, 1) := by decide +kernel
theorem dX3_copyFrom_20 : decode cX3_copyFrom 20 = .ok (.getfield 15, 3) := by decide +kernel
theorem dX3_copyFrom_23 : decode cX3_copyFrom 23 = .ok (.aload_n 0, 1) := by decide +kernel
theorem dX3_copyFrom_24 : decode cX3_copyFrom 24 = .ok (.getfield 15, 3) := by decide +kernel
theorem dX3_copyFrom_27 : decode cX3_copyFrom 27 = .ok (.invokestatic 37, 3) := by decide +kernel
theorem dX3_copyFrom_30 : decode cX3_copyFrom 30 = .ok (.aload_n 1, 1) := by decide +kernel
theorem dX3_copyFrom_31 : decode cX3_copyFrom 31 = .ok (.getfield 18, 3) := by decide +kernel
theorem dX3_copyFrom_34 : decode cX3_copyFrom 34 = .ok (.aload_n 0, 1) := by decide +kernel
theorem dX3_copyFrom_35 : decode cX3_copyFrom 35 = .ok (.getfield 18, 3) := by decide +kernel
theorem dX3_copyFrom_38 : decode cX3_copyFrom 38 = .ok (.invokestatic 37, 3) := by decide +kernel
theorem dX3_copyFrom_41 : decode cX3_copyFrom 41 = .ok (.aload_n 1, 1) := by decide +kernel
theorem dX3_copyFrom_42 : decode cX3_copyFrom 42 = .ok (.getfield 21, 3) := by decide +kernel
theorem dX3_copyFrom_45 : decode cX3_copyFrom 45 = .ok (.aload_n 0, 1) := by decide +kernel
theorem dX3_copyFrom_46 : decode cX3_copyFrom 46 = .ok (.getfield 21, 3) := by decide +kernel
theorem dX3_copyFrom_49 : decode cX3_copyFrom 49 = .ok (.invokestatic 37, 3) := by decide +kernel
theorem dX3_copyFrom_52 : decode cX3_copyFrom 52 = .ok (.aload_n 1, 1) := by decide +kernel
theorem dX3_copyFrom_53 : decode cX3_copyFrom 53 = .ok (.getfield 24, 3) := by decide +kernel
theorem dX3_copyFrom_56 : decode cX3_copyFrom 56 = .ok (.aload_n 0, 1) := by decide +kernel
theorem dX3_copyFrom_57 : decode cX3_copyFrom 57 = .ok (.getfield 24, 3) := by decide +kernel
theorem dX3_copyFrom_60 : decode cX3_copyFrom 60 = .ok (.invokestatic 37, 3) := by decide +kernel
theorem dX3_copyFrom_63 : decode cX3_copyFrom 63 = .ok (.aload_n 1, 1) := by decide +kernel
theorem dX3_copyFrom_64 : decode cX3_copyFrom 64 = .ok (.getfield 27, 3) := by decide +kernel
theorem dX3_copyFrom_67 : decode cX3_copyFrom 67 = .ok (.aload_n 0, 1) := by decide +kernel
theorem dX3_copyFrom_68 : decode cX3_copyFrom 68 = .ok (.getfield 27, 3) := by decide +kernel
theorem dX3_copyFrom_71 : decode cX3_copyFrom 71 = .ok (.invokestatic 37, 3) := by decide +kernel
theorem dX3_copyFrom_74 : decode cX3_copyFrom 74 = .ok (.aload_n 1, 1) := by decide +kernel
theorem dX3_copyFrom_75 : decode cX3_copyFrom 75 = .ok (.getfield 30, 3) := by decide +kernel
theorem dX3_copyFrom_78 : decode cX3_copyFrom 78 = .ok (.aload_n 0, 1) := by decide +kernel
theorem dX3_copyFrom_79 : decode cX3_copyFrom 79 = .ok (.getfield 30, 3) := by decide +kernel
theorem dX3_copyFrom_82 : decode cX3_copyFrom 82 = .ok (.invokestatic 37, 3) := by decide +kernel
theorem dX3_copyFrom_85 : decode cX3_copyFrom 85 = .ok (.return_, 1) := by decide +kernel
theorem dX3_has_0 : decode cX3_has 0 = .ok (.iload_n 1, 1) := by decide +kernel
theorem dX3_has_1 : decode cX3_has 1 = .ok (.ifCond .lt 15, 3) := by decide +kernel
theorem dX3_has_4 : decode cX3_has 4 = .ok (.iload_n 1, 1) := by decide +kernel
theorem dX3_has_5 : decode cX3_has 5 = .ok (.aload_n 0, 1) := by decide +kernel
theorem dX3_has_6 : decode cX3_has 6 = .ok (.getfield 33, 3) := by decide +kernel
theorem dX3_has_9 : decode cX3_has 9 = .ok (.if_icmp .ge 7, 3) := by decide +kernel
theorem dX3_has_12 : decode cX3_has 12 = .ok (.iconst 1, 1) := by decide +kernel
theorem dX3_has_13 : decode cX3_has 13 = .ok (.goto 4, 3) := by decide +kernel
theorem dX3_has_16 : decode cX3_has 16 = .ok (.iconst 0, 1) := by decide +kernel
theorem dX3_has_17 : decode cX3_has 17 = .ok (.ireturn, 1) := by decide +kernel
theorem dX3_isTaken_0 : decode cX3_isTaken 0 = .ok (.iconst 0, 1) := by decide +kernel
theorem dX3_isTaken_1 : decode cX3_isTaken 1 = .ok (.istore_n 3, 1) := by decide +kernel
theorem dX3_isTaken_2 : decode cX3_isTaken 2 = .ok (.iload_n 3, 1) := by decide +kernel
theorem dX3_isTaken_3 : decode cX3_isTaken 3 = .ok (.aload_n 0, 1) := by decide +kernel
theorem dX3_isTaken_4 : decode cX3_isTaken 4 = .ok (.getfield 33, 3) := by decide +kernel
theorem dX3_isTaken_7 : decode cX3_isTaken 7 = .ok (.if_icmp .ge 31, 3) := by decide +kernel
theorem dX3_isTaken_10 : decode cX3_isTaken 10 = .ok (.aload_n 0, 1) := by decide +kernel
theorem dX3_isTaken_11 : decode cX3_isTaken 11 = .ok (.getfield 9, 3) := by decide +kernel
theorem dX3_isTaken_14 : decode cX3_isTaken 14 = .ok (.iload_n 3, 1) := by decide +kernel
theorem dX3_isTaken_15 : decode cX3_isTaken 15 = .ok (.iaload, 1) := by decide +kernel
theorem dX3_isTaken_16 : decode cX3_isTaken 16 = .ok (.iload_n 1, 1) := by decide +kernel
theorem dX3_isTaken_17 : decode cX3_isTaken 17 = .ok (.if_icmp .ne 15, 3) := by decide +kernel
theorem dX3_isTaken_20 : decode cX3_isTaken 20 = .ok (.aload_n 0, 1) := by decide +kernel
theorem dX3_isTaken_21 : decode cX3_isTaken 21 = .ok (.getfield 15, 3) := by decide +kernel
theorem dX3_isTaken_24 : decode cX3_isTaken 24 = .ok (.iload_n 3, 1) := by decide +kernel
theorem dX3_isTaken_25 : decode cX3_isTaken 25 = .ok (.iaload, 1) := by decide +kernel
theorem dX3_isTaken_26 : decode cX3_isTaken 26 = .ok (.iload_n 2, 1) := by decide +kernel
theorem dX3_isTaken_27 : decode cX3_isTaken 27 = .ok (.if_icmp .ne 5, 3) := by decide +kernel
theorem dX3_isTaken_30 : decode cX3_isTaken 30 = .ok (.iconst 1, 1) := by decide +kernel
theorem dX3_isTaken_31 : decode cX3_isTaken 31 = .ok (.ireturn, 1) := by decide +kernel
theorem dX3_isTaken_32 : decode cX3_isTaken 32 = .ok (.iinc 3 1, 3) := by decide +kernel
theorem dX3_isTaken_35 : decode cX3_isTaken 35 = .ok (.goto (-33), 3) := by decide +kernel
theorem dX3_isTaken_38 : decode cX3_isTaken 38 = .ok (.iconst 0, 1) := by decide +kernel
theorem dX3_isTaken_39 : decode cX3_isTaken 39 = .ok (.ireturn, 1) := by decide +kernel
theorem dX3_seenAside_0 : decode cX3_seenAside 0 = .ok (.iconst 0, 1) := by decide +kernel
theorem dX3_seenAside_1 : decode cX3_seenAside 1 = .ok (.istore_n 2, 1) := by decide +kernel
theorem dX3_seenAside_2 : decode cX3_seenAside 2 = .ok (.iload_n 2, 1) := by decide +kernel
theorem dX3_seenAside_3 : decode cX3_seenAside 3 = .ok (.aload_n 0, 1) := by decide +kernel
theorem dX3_seenAside_4 : decode cX3_seenAside 4 = .ok (.getfield 33, 3) := by decide +kernel
theorem dX3_seenAside_7 : decode cX3_seenAside 7 = .ok (.if_icmp .ge 41, 3) := by decide +kernel
theorem dX3_seenAside_10 : decode cX3_seenAside 10 = .ok (.aload_n 0, 1) := by decide +kernel
theorem dX3_seenAside_11 : decode cX3_seenAside 11 = .ok (.getfield 15, 3) := by decide +kernel
theorem dX3_seenAside_14 : decode cX3_seenAside 14 = .ok (.iload_n 2, 1) := by decide +kernel
theorem dX3_seenAside_15 : decode cX3_seenAside 15 = .ok (.iaload, 1) := by decide +kernel
theorem dX3_seenAside_16 : decode cX3_seenAside 16 = .ok (.aload_n 0, 1) := by decide +kernel
theorem dX3_seenAside_17 : decode cX3_seenAside 17 = .ok (.getfield 15, 3) := by decide +kernel
theorem dX3_seenAside_20 : decode cX3_seenAside 20 = .ok (.iload_n 1, 1) := by decide +kernel
theorem dX3_seenAside_21 : decode cX3_seenAside 21 = .ok (.iaload, 1) := by decide +kernel
theorem dX3_seenAside_22 : decode cX3_seenAside 22 = .ok (.if_icmp .ne 20, 3) := by decide +kernel
theorem dX3_seenAside_25 : decode cX3_seenAside 25 = .ok (.aload_n 0, 1) := by decide +kernel
