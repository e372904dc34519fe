theorem dX8_init_0 : decode cX8_init 0 = .ok (.aload_n 0, 1) := by decide +kernel
theorem dX8_init_1 : decode cX8_init 1 = .ok (.invokespecial 1, 3) := by decide +kernel
theorem dX8_init_4 : decode cX8_init 4 = .ok (.aload_n 0, 1) := by decide +kernel
theorem dX8_init_5 : decode cX8_init 5 = .ok (.new 7, 3) := by decide +kernel
theorem dX8_init_8 : decode cX8_init 8 = .ok (.dup, 1) := by decide +kernel
theorem dX8_init_9 : decode cX8_init 9 = .ok (.invokespecial 9, 3) := by decide +kernel
theorem dX8_init_12 : decode cX8_init 12 = .ok (.putfield 10, 3) := by decide +kernel
theorem dX8_init_15 : decode cX8_init 15 = .ok (.aload_n 0, 1) := by decide +kernel
theorem dX8_init_16 : decode cX8_init 16 = .ok (.new 7, 3) := by decide +kernel
theorem dX8_init_19 : decode cX8_init 19 = .ok (.dup, 1) := by decide +kernel
theorem dX8_init_20 : decode cX8_init 20 = .ok (.invokespecial 9, 3) := by decide +kernel
theorem dX8_init_23 : decode cX8_init 23 = .ok (.putfield 16, 3) := by decide +kernel
theorem dX8_init_26 : decode cX8_init 26 = .ok (.aload_n 0, 1) := by decide +kernel
theorem dX8_init_27 : decode cX8_init 27 = .ok (.new 7, 3) := by decide +kernel
theorem dX8_init_30 : decode cX8_init 30 = .ok (.dup, 1) := by decide +kernel
theorem dX8_init_31 : decode cX8_init 31 = .ok (.invokespecial 9, 3) := by decide +kernel
theorem dX8_init_34 : decode cX8_init 34 = .ok (.putfield 19, 3) := by decide +kernel
theorem dX8_init_37 : decode cX8_init 37 = .ok (.aload_n 0, 1) := by decide +kernel
theorem dX8_init_38 : decode cX8_init 38 = .ok (.new 7, 3) := by decide +kernel
theorem dX8_init_41 : decode cX8_init 41 = .ok (.dup, 1) := by decide +kernel
theorem dX8_init_42 : decode cX8_init 42 = .ok (.invokespecial 9, 3) := by decide +kernel
theorem dX8_init_45 : decode cX8_init 45 = .ok (.putfield 22, 3) := by decide +kernel
theorem dX8_init_48 : decode cX8_init 48 = .ok (.aload_n 0, 1) := by decide +kernel
theorem dX8_init_49 : decode cX8_init 49 = .ok (.new 25, 3) := by decide +kernel
theorem dX8_init_52 : decode cX8_init 52 = .ok (.dup, 1) := by decide +kernel
theorem dX8_init_53 : decode cX8_init 53 = .ok (.invokespecial 27, 3) := by decide +kernel
theorem dX8_init_56 : decode cX8_init 56 = .ok (.putfield 28, 3) := by decide +kernel
theorem dX8_init_59 : decode cX8_init 59 = .ok (.aload_n 0, 1) := by decide +kernel
theorem dX8_init_60 : decode cX8_init 60 = .ok (.new 32, 3) := by decide +kernel
theorem dX8_init_63 : decode cX8_init 63 = .ok (.dup, 1) := by decide +kernel
theorem dX8_init_64 : decode cX8_init 64 = .ok (.aload_n 0, 1) := by decide +kernel
theorem dX8_init_65 : decode cX8_init 65 = .ok (.getfield 28, 3) := by decide +kernel
theorem dX8_init_68 : decode cX8_init 68 = .ok (.invokespecial 34, 3) := by decide +kernel
theorem dX8_init_71 : decode cX8_init 71 = .ok (.putfield 37, 3) := by decide +kernel
theorem dX8_init_74 : decode cX8_init 74 = .ok (.aload_n 0, 1) := by decide +kernel
theorem dX8_init_75 : decode cX8_init 75 = .ok (.new 41, 3) := by decide +kernel
theorem dX8_init_78 : decode cX8_init 78 = .ok (.dup, 1) := by decide +kernel
theorem dX8_init_79 : decode cX8_init 79 = .ok (.iconst 4, 1) := by decide +kernel
theorem dX8_init_80 : decode cX8_init 80 = .ok (.iconst 4, 1) := by decide +kernel
theorem dX8_init_81 : decode cX8_init 81 = .ok (.invokespecial 43, 3) := by decide +kernel
theorem dX8_init_84 : decode cX8_init 84 = .ok (.putfield 46, 3) := by decide +kernel
theorem dX8_init_87 : decode cX8_init 87 = .ok (.aload_n 0, 1) := by decide +kernel
theorem dX8_init_88 : decode cX8_init 88 = .ok (.iconst 1, 1) := by decide +kernel
theorem dX8_init_89 : decode cX8_init 89 = .ok (.putfield 50, 3) := by decide +kernel
theorem dX8_init_92 : decode cX8_init 92 = .ok (.aload_n 0, 1) := by decide +kernel
theorem dX8_init_93 : decode cX8_init 93 = .ok (.iconst 5, 1) := by decide +kernel
theorem dX8_init_94 : decode cX8_init 94 = .ok (.putfield 54, 3) := by decide +kernel
theorem dX8_init_97 : decode cX8_init 97 = .ok (.return_, 1) := by decide +kernel
theorem dX8_addPlace_0 : decode cX8_addPlace 0 = .ok (.aload_n 0, 1) := by decide +kernel
theorem dX8_addPlace_1 : decode cX8_addPlace 1 = .ok (.getfield 50, 3) := by decide +kernel
theorem dX8_addPlace_4 : decode cX8_addPlace 4 = .ok (.bipush 10, 2) := by decide +kernel
theorem dX8_addPlace_6 : decode cX8_addPlace 6 = .ok (.if_icmp .lt 13, 3) := by decide +kernel
theorem dX8_addPlace_9 : decode cX8_addPlace 9 = .ok (.new 57, 3) := by decide +kernel
theorem dX8_addPlace_12 : decode cX8_addPlace 12 = .ok (.dup, 1) := by decide +kernel
theorem dX8_addPlace_13 : decode cX8_addPlace 13 = .ok (.ldc 59, 2) := by decide +kernel
theorem dX8_addPlace_15 : decode cX8_addPlace 15 = .ok (.invokespecial 61, 3) := by decide +kernel
theorem dX8_addPlace_18 : decode cX8_addPlace 18 = .ok (.athrow, 1) := by decide +kernel
theorem dX8_addPlace_19 : decode cX8_addPlace 19 = .ok (.aload_n 0, 1) := by decide +kernel
theorem dX8_addPlace_20 : decode cX8_addPlace 20 = .ok (.dup, 1) := by decide +kernel
theorem dX8_addPlace_21 : decode cX8_addPlace 21 = .ok (.getfield 50, 3) := by decide +kernel
theorem dX8_addPlace_24 : decode cX8_addPlace 24 = .ok (.iconst 1, 1) := by decide +kernel
theorem dX8_addPlace_25 : decode cX8_addPlace 25 = .ok (.iadd, 1) := by decide +kernel
theorem dX8_addPlace_26 : decode cX8_addPlace 26 = .ok (.putfield 50, 3) := by decide +kernel
theorem dX8_addPlace_29 : decode cX8_addPlace 29 = .ok (.aload_n 0, 1) := by decide +kernel
theorem dX8_addPlace_30 : decode cX8_addPlace 30 = .ok (.getfield 50, 3) := by decide +kernel
theorem dX8_addPlace_33 : decode cX8_addPlace 33 = .ok (.iconst 1, 1) := by decide +kernel
theorem dX8_addPlace_34 : decode cX8_addPlace 34 = .ok (.isub, 1) := by decide +kernel
theorem dX8_addPlace_35 : decode cX8_addPlace 35 = .ok (.ireturn, 1) := by decide +kernel
theorem dX8_addStreet_0 : decode cX8_addStreet 0 = .ok (.aload_n 0, 1) := by decide +kernel
theorem dX8_addStreet_1 : decode cX8_addStreet 1 = .ok (.iload_n 1, 1) := by decide +kernel
theorem dX8_addStreet_2 : decode cX8_addStreet 2 = .ok (.invokevirtual 64, 3) := by decide +kernel
theorem dX8_addStreet_5 : decode cX8_addStreet 5 = .ok (.aload_n 0, 1) := by decide +kernel
theorem dX8_addStreet_6 : decode cX8_addStreet 6 = .ok (.iload_n 2, 1) := by decide +kernel
theorem dX8_addStreet_7 : decode cX8_addStreet 7 = .ok (.invokevirtual 64, 3) := by decide +kernel
theorem dX8_addStreet_10 : decode cX8_addStreet 10 = .ok (.iload_n 1, 1) := by decide +kernel
theorem dX8_addStreet_11 : decode cX8_addStreet 11 = .ok (.iload_n 2, 1) := by decide +kernel
theorem dX8_addStreet_12 : decode cX8_addStreet 12 = .ok (.if_icmp .eq 13, 3) := by decide +kernel
theorem dX8_addStreet_15 : decode cX8_addStreet 15 = .ok (.iconst 1, 1) := by decide +kernel
theorem dX8_addStreet_16 : decode cX8_addStreet 16 = .ok (.bipush 99, 2) := by decide +kernel
theorem dX8_addStreet_18 : decode cX8_addStreet 18 = .ok (.iload_n 3, 1) := by decide +kernel
theorem dX8_addStreet_19 : decode cX8_addStreet 19 = .ok (.invokestatic 68, 3) := by decide +kernel
theorem dX8_addStreet_22 : decode cX8_addStreet 22 = .ok (.ifCond .ne 13, 3) := by decide +kernel
theorem dX8_addStreet_25 : decode cX8_addStreet 25 = .ok (.new 72, 3) := by decide +kernel
theorem dX8_addStreet_28 : decode cX8_addStreet 28 = .ok (.dup, 1) := by decide +kernel
theorem dX8_addStreet_29 : decode cX8_addStreet 29 = .ok (.ldc 74, 2) := by decide +kernel
theorem dX8_addStreet_31 : decode cX8_addStreet 31 = .ok (.invokespecial 76, 3) := by decide +kernel
theorem dX8_addStreet_34 : decode cX8_addStreet 34 = .ok (.athrow, 1) := by decide +kernel
theorem dX8_addStreet_35 : decode cX8_addStreet 35 = .ok (.aload_n 0, 1) := by decide +kernel
theorem dX8_addStreet_36 : decode cX8_addStreet 36 = .ok (.getfield 10, 3) := by decide +kernel
theorem dX8_addStreet_39 : decode cX8_addStreet 39 = .ok (.invokevirtual 77, 3) := by decide +kernel
theorem dX8_addStreet_42 : decode cX8_addStreet 42 = .ok (.bipush 16, 2) := by decide +kernel
theorem dX8_addStreet_44 : decode cX8_addStreet 44 = .ok (.if_icmp .lt 13, 3) := by decide +kernel
theorem dX8_addStreet_47 : decode cX8_addStreet 47 = .ok (.new 57, 3) := by decide +kernel
theorem dX8_addStreet_50 : decode cX8_addStreet 50 = .ok (.dup, 1) := by decide +kernel
theorem dX8_addStreet_51 : decode cX8_addStreet 51 = .ok (.ldc 81, 2) := by decide +kernel
theorem dX8_addStreet_53 : decode cX8_addStreet 53 = .ok (.invokespecial 61, 3) := by decide +kernel
theorem dX8_addStreet_56 : decode cX8_addStreet 56 = .ok (.athrow, 1) := by decide +kernel
theorem dX8_addStreet_57 : decode cX8_addStreet 57 = .ok (.new 83, 3) := by decide +kernel
theorem dX8_addStreet_60 : decode cX8_addStreet 60 = .ok (.dup, 1) := by decide +kernel
theorem dX8_addStreet_61 : decode cX8_addStreet 61 = .ok (.aload_n 0, 1) := by decide +kernel
theorem dX8_addStreet_62 : decode cX8_addStreet 62 = .ok (.getfield 10, 3) := by decide +kernel
theorem dX8_addStreet_65 : decode cX8_addStreet 65 = .ok (.invokevirtual 77, 3) := by decide +kernel
theorem dX8_addStreet_68 : decode cX8_addStreet 68 = .ok (.iload_n 1, 1) := by decide +kernel
theorem dX8_addStreet_69 : decode cX8_addStreet 69 = .ok (.iload_n 2, 1) := by decide +kernel
theorem dX8_addStreet_70 : decode cX8_addStreet 70 = .ok (.iload_n 3, 1) := by decide +kernel
theorem dX8_addStreet_71 : decode cX8_addStreet 71 = .ok (.iload 4, 2) := by decide +kernel
theorem dX8_addStreet_73 : decode cX8_addStreet 73 = .ok (.invokespecial 85, 3) := by decide +kernel
theorem dX8_addStreet_76 : decode cX8_addStreet 76 = .ok (.astore 5, 2) := by decide +kernel
theorem dX8_addStreet_78 : decode cX8_addStreet 78 = .ok (.aload_n 0, 1) := by decide +kernel
theorem dX8_addStreet_79 : decode cX8_addStreet 79 = .ok (.getfield 10, 3) := by decide +kernel
theorem dX8_addStreet_82 : decode cX8_addStreet 82 = .ok (.aload 5, 2) := by decide +kernel
theorem dX8_addStreet_84 : decode cX8_addStreet 84 = .ok (.invokevirtual 88, 3) := by decide +kernel
theorem dX8_addStreet_87 : decode cX8_addStreet 87 = .ok (.pop, 1) := by decide +kernel
theorem dX8_addStreet_88 : decode cX8_addStreet 88 = .ok (.aload_n 0, 1) := by decide +kernel
theorem dX8_addStreet_89 : decode cX8_addStreet 89 = .ok (.getfield 28, 3) := by decide +kernel
theorem dX8_addStreet_92 : decode cX8_addStreet 92 = .ok (.aload 5, 2) := by decide +kernel
theorem dX8_addStreet_94 : decode cX8_addStreet 94 = .ok (.invokevirtual 92, 3) := by decide +kernel
theorem dX8_addStreet_97 : decode cX8_addStreet 97 = .ok (.aload 5, 2) := by decide +kernel
theorem dX8_addStreet_99 : decode cX8_addStreet 99 = .ok (.getfield 96, 3) := by decide +kernel
theorem dX8_addStreet_102 : decode cX8_addStreet 102 = .ok (.ireturn, 1) := by decide +kernel
theorem dX8_addHouse_0 : decode cX8_addHouse 0 = .ok (.aload_n 0, 1) := by decide +kernel
theorem dX8_addHouse_1 : decode cX8_addHouse 1 = .ok (.iload_n 1, 1) := by decide +kernel
theorem dX8_addHouse_2 : decode cX8_addHouse 2 = .ok (.invokevirtual 99, 3) := by decide +kernel
theorem dX8_addHouse_5 : decode cX8_addHouse 5 = .ok (.astore 4, 2) := by decide +kernel
theorem dX8_addHouse_7 : decode cX8_addHouse 7 = .ok (.iconst 0, 1) := by decide +kernel
theorem dX8_addHouse_8 : decode cX8_addHouse 8 = .ok (.iconst 1, 1) := by decide +kernel
theorem dX8_addHouse_9 : decode cX8_addHouse 9 = .ok (.iload_n 2, 1) := by decide +kernel
theorem dX8_addHouse_10 : decode cX8_addHouse 10 = .ok (.invokestatic 68, 3) := by decide +kernel
theorem dX8_addHouse_13 : decode cX8_addHouse 13 = .ok (.ifCond .eq 16, 3) := by decide +kernel
theorem dX8_addHouse_16 : decode cX8_addHouse 16 = .ok (.iconst 0, 1) := by decide +kernel
theorem dX8_addHouse_17 : decode cX8_addHouse 17 = .ok (.aload 4, 2) := by decide +kernel
theorem dX8_addHouse_19 : decode cX8_addHouse 19 = .ok (.getfield 103, 3) := by decide +kernel
theorem dX8_addHouse_22 : decode cX8_addHouse 22 = .ok (.iload_n 3, 1) := by decide +kernel
theorem dX8_addHouse_23 : decode cX8_addHouse 23 = .ok (.invokestatic 68, 3) := by decide +kernel
theorem dX8_addHouse_26 : decode cX8_addHouse 26 = .ok (.ifCond .ne 13, 3) := by decide +kernel
theorem dX8_addHouse_29 : decode cX8_addHouse 29 = .ok (.new 72, 3) := by decide +kernel
theorem dX8_addHouse_32 : decode cX8_addHouse 32 = .ok (.dup, 1) := by decide +kernel
theorem dX8_addHouse_33 : decode cX8_addHouse 33 = .ok (.ldc 106, 2) := by decide +kernel
theorem dX8_addHouse_35 : decode cX8_addHouse 35 = .ok (.invokespecial 76, 3) := by decide +kernel
theorem dX8_addHouse_38 : decode cX8_addHouse 38 = .ok (.athrow, 1) := by decide +kernel
theorem dX8_addHouse_39 : decode cX8_addHouse 39 = .ok (.aload_n 0, 1) := by decide +kernel
theorem dX8_addHouse_40 : decode cX8_addHouse 40 = .ok (.getfield 16, 3) := by decide +kernel
theorem dX8_addHouse_43 : decode cX8_addHouse 43 = .ok (.invokevirtual 77, 3) := by decide +kernel
theorem dX8_addHouse_46 : decode cX8_addHouse 46 = .ok (.bipush 30, 2) := by decide +kernel
theorem dX8_addHouse_48 : decode cX8_addHouse 48 = .ok (.if_icmp .lt 13, 3) := by decide +kernel
theorem dX8_addHouse_51 : decode cX8_addHouse 51 = .ok (.new 57, 3) := by decide +kernel
theorem dX8_addHouse_54 : decode cX8_addHouse 54 = .ok (.dup, 1) := by decide +kernel
theorem dX8_addHouse_55 : decode cX8_addHouse 55 = .ok (.ldc 108, 2) := by decide +kernel
theorem dX8_addHouse_57 : decode cX8_addHouse 57 = .ok (.invokespecial 61, 3) := by decide +kernel
theorem dX8_addHouse_60 : decode cX8_addHouse 60 = .ok (.athrow, 1) := by decide +kernel
theorem dX8_addHouse_61 : decode cX8_addHouse 61 = .ok (.new 110, 3) := by decide +kernel
theorem dX8_addHouse_64 : decode cX8_addHouse 64 = .ok (.dup, 1) := by decide +kernel
theorem dX8_addHouse_65 : decode cX8_addHouse 65 = .ok (.aload_n 0, 1) := by decide +kernel
theorem dX8_addHouse_66 : decode cX8_addHouse 66 = .ok (.getfield 16, 3) := by decide +kernel
theorem dX8_addHouse_69 : decode cX8_addHouse 69 = .ok (.invokevirtual 77, 3) := by decide +kernel
theorem dX8_addHouse_72 : decode cX8_addHouse 72 = .ok (.aload 4, 2) := by decide +kernel
theorem dX8_addHouse_74 : decode cX8_addHouse 74 = .ok (.iload_n 2, 1) := by decide +kernel
theorem dX8_addHouse_75 : decode cX8_addHouse 75 = .ok (.iload_n 3, 1) := by decide +kernel
theorem dX8_addHouse_76 : decode cX8_addHouse 76 = .ok (.invokespecial 112, 3) := by decide +kernel
theorem dX8_addHouse_79 : decode cX8_addHouse 79 = .ok (.astore 5, 2) := by decide +kernel
theorem dX8_addHouse_81 : decode cX8_addHouse 81 = .ok (.aload_n 0, 1) := by decide +kernel
theorem dX8_addHouse_82 : decode cX8_addHouse 82 = .ok (.getfield 16, 3) := by decide +kernel
theorem dX8_addHouse_85 : decode cX8_addHouse 85 = .ok (.aload 5, 2) := by decide +kernel
theorem dX8_addHouse_87 : decode cX8_addHouse 87 = .ok (.invokevirtual 88, 3) := by decide +kernel
theorem dX8_addHouse_90 : decode cX8_addHouse 90 = .ok (.pop, 1) := by decide +kernel
theorem dX8_addHouse_91 : decode cX8_addHouse 91 = .ok (.aload 5, 2) := by decide +kernel
theorem dX8_addHouse_93 : decode cX8_addHouse 93 = .ok (.getfield 115, 3) := by decide +kernel
theorem dX8_addHouse_96 : decode cX8_addHouse 96 = .ok (.ireturn, 1) := by decide +kernel
theorem dX8_addRound_0 : decode cX8_addRound 0 = .ok (.iconst 1, 1) := by decide +kernel
theorem dX8_addRound_1 : decode cX8_addRound 1 = .ok (.sipush 999, 3) := by decide +kernel
theorem dX8_addRound_4 : decode cX8_addRound 4 = .ok (.iload_n 1, 1) := by decide +kernel
theorem dX8_addRound_5 : decode cX8_addRound 5 = .ok (.invokestatic 68, 3) := by decide +kernel
theorem dX8_addRound_8 : decode cX8_addRound 8 = .ok (.ifCond .ne 13, 3) := by decide +kernel
theorem dX8_addRound_11 : decode cX8_addRound 11 = .ok (.new 72, 3) := by decide +kernel
theorem dX8_addRound_14 : decode cX8_addRound 14 = .ok (.dup, 1) := by decide +kernel
theorem dX8_addRound_15 : decode cX8_addRound 15 = .ok (.ldc 116, 2) := by decide +kernel
theorem dX8_addRound_17 : decode cX8_addRound 17 = .ok (.invokespecial 76, 3) := by decide +kernel
theorem dX8_addRound_20 : decode cX8_addRound 20 = .ok (.athrow, 1) := by decide +kernel
theorem dX8_addRound_21 : decode cX8_addRound 21 = .ok (.aload_n 0, 1) := by decide +kernel
theorem dX8_addRound_22 : decode cX8_addRound 22 = .ok (.getfield 19, 3) := by decide +kernel
theorem dX8_addRound_25 : decode cX8_addRound 25 = .ok (.invokevirtual 77, 3) := by decide +kernel
theorem dX8_addRound_28 : decode cX8_addRound 28 = .ok (.iconst 4, 1) := by decide +kernel
theorem dX8_addRound_29 : decode cX8_addRound 29 = .ok (.if_icmp .lt 13, 3) := by decide +kernel
theorem dX8_addRound_32 : decode cX8_addRound 32 = .ok (.new 57, 3) := by decide +kernel
theorem dX8_addRound_35 : decode cX8_addRound 35 = .ok (.dup, 1) := by decide +kernel
theorem dX8_addRound_36 : decode cX8_addRound 36 = .ok (.ldc 118, 2) := by decide +kernel
theorem dX8_addRound_38 : decode cX8_addRound 38 = .ok (.invokespecial 61, 3) := by decide +kernel
theorem dX8_addRound_41 : decode cX8_addRound 41 = .ok (.athrow, 1) := by decide +kernel
theorem dX8_addRound_42 : decode cX8_addRound 42 = .ok (.aload_n 0, 1) := by decide +kernel
theorem dX8_addRound_43 : decode cX8_addRound 43 = .ok (.getfield 19, 3) := by decide +kernel
theorem dX8_addRound_46 : decode cX8_addRound 46 = .ok (.new 120, 3) := by decide +kernel
theorem dX8_addRound_49 : decode cX8_addRound 49 = .ok (.dup, 1) := by decide +kernel
theorem dX8_addRound_50 : decode cX8_addRound 50 = .ok (.iload_n 1, 1) := by decide +kernel
theorem dX8_addRound_51 : decode cX8_addRound 51 = .ok (.invokespecial 122, 3) := by decide +kernel
theorem dX8_addRound_54 : decode cX8_addRound 54 = .ok (.invokevirtual 88, 3) := by decide +kernel
theorem dX8_addRound_57 : decode cX8_addRound 57 = .ok (.pop, 1) := by decide +kernel
theorem dX8_addRound_58 : decode cX8_addRound 58 = .ok (.aload_n 0, 1) := by decide +kernel
theorem dX8_addRound_59 : decode cX8_addRound 59 = .ok (.getfield 19, 3) := by decide +kernel
theorem dX8_addRound_62 : decode cX8_addRound 62 = .ok (.invokevirtual 77, 3) := by decide +kernel
theorem dX8_addRound_65 : decode cX8_addRound 65 = .ok (.iconst 1, 1) := by decide +kernel
theorem dX8_addRound_66 : decode cX8_addRound 66 = .ok (.isub, 1) := by decide +kernel
theorem dX8_addRound_67 : decode cX8_addRound 67 = .ok (.ireturn, 1) := by decide +kernel
theorem dX8_assign_0 : decode cX8_assign 0 = .ok (.aload_n 0, 1) := by decide +kernel
theorem dX8_assign_1 : decode cX8_assign 1 = .ok (.iload_n 1, 1) := by decide +kernel
theorem dX8_assign_2 : decode cX8_assign 2 = .ok (.invokevirtual 99, 3) := by decide +kernel
theorem dX8_assign_5 : decode cX8_assign 5 = .ok (.astore_n 3, 1) := by decide +kernel
theorem dX8_assign_6 : decode cX8_assign 6 = .ok (.aload_n 0, 1) := by decide +kernel
theorem dX8_assign_7 : decode cX8_assign 7 = .ok (.iload_n 2, 1) := by decide +kernel
theorem dX8_assign_8 : decode cX8_assign 8 = .ok (.invokevirtual 124, 3) := by decide +kernel
theorem dX8_assign_11 : decode cX8_assign 11 = .ok (.pop, 1) := by decide +kernel
theorem dX8_assign_12 : decode cX8_assign 12 = .ok (.aload_n 3, 1) := by decide +kernel
theorem dX8_assign_13 : decode cX8_assign 13 = .ok (.getfield 128, 3) := by decide +kernel
theorem dX8_assign_16 : decode cX8_assign 16 = .ok (.istore 4, 2) := by decide +kernel
theorem dX8_assign_18 : decode cX8_assign 18 = .ok (.aload_n 3, 1) := by decide +kernel
theorem dX8_assign_19 : decode cX8_assign 19 = .ok (.iload_n 2, 1) := by decide +kernel
theorem dX8_assign_20 : decode cX8_assign 20 = .ok (.putfield 128, 3) := by decide +kernel
theorem dX8_assign_23 : decode cX8_assign 23 = .ok (.iload 4, 2) := by decide +kernel
theorem dX8_assign_25 : decode cX8_assign 25 = .ok (.ireturn, 1) := by decide +kernel
theorem dX8_setBag_0 : decode cX8_setBag 0 = .ok (.iconst 0, 1) := by decide +kernel
theorem dX8_setBag_1 : decode cX8_setBag 1 = .ok (.bipush 99, 2) := by decide +kernel
theorem dX8_setBag_3 : decode cX8_setBag 3 = .ok (.iload_n 1, 1) := by decide +kernel
theorem dX8_setBag_4 : decode cX8_setBag 4 = .ok (.invokestatic 68, 3) := by decide +kernel
theorem dX8_setBag_7 : decode cX8_setBag 7 = .ok (.ifCond .ne 13, 3) := by decide +kernel
theorem dX8_setBag_10 : decode cX8_setBag 10 = .ok (.new 72, 3) := by decide +kernel
theorem dX8_setBag_13 : decode cX8_setBag 13 = .ok (.dup, 1) := by decide +kernel
theorem dX8_setBag_14 : decode cX8_setBag 14 = .ok (.ldc 131, 2) := by decide +kernel
theorem dX8_setBag_16 : decode cX8_setBag 16 = .ok (.invokespecial 76, 3) := by decide +kernel
theorem dX8_setBag_19 : decode cX8_setBag 19 = .ok (.athrow, 1) := by decide +kernel
theorem dX8_setBag_20 : decode cX8_setBag 20 = .ok (.aload_n 0, 1) := by decide +kernel
theorem dX8_setBag_21 : decode cX8_setBag 21 = .ok (.getfield 54, 3) := by decide +kernel
theorem dX8_setBag_24 : decode cX8_setBag 24 = .ok (.istore_n 2, 1) := by decide +kernel
theorem dX8_setBag_25 : decode cX8_setBag 25 = .ok (.aload_n 0, 1) := by decide +kernel
theorem dX8_setBag_26 : decode cX8_setBag 26 = .ok (.iload_n 1, 1) := by decide +kernel
theorem dX8_setBag_27 : decode cX8_setBag 27 = .ok (.putfield 54, 3) := by decide +kernel
theorem dX8_setBag_30 : decode cX8_setBag 30 = .ok (.iload_n 2, 1) := by decide +kernel
theorem dX8_setBag_31 : decode cX8_setBag 31 = .ok (.ireturn, 1) := by decide +kernel
theorem dX8_letters_0 : decode cX8_letters 0 = .ok (.aload_n 0, 1) := by decide +kernel
theorem dX8_letters_1 : decode cX8_letters 1 = .ok (.iload_n 1, 1) := by decide +kernel
theorem dX8_letters_2 : decode cX8_letters 2 = .ok (.invokevirtual 133, 3) := by decide +kernel
theorem dX8_letters_5 : decode cX8_letters 5 = .ok (.astore_n 3, 1) := by decide +kernel
theorem dX8_letters_6 : decode cX8_letters 6 = .ok (.iconst 1, 1) := by decide +kernel
theorem dX8_letters_7 : decode cX8_letters 7 = .ok (.bipush 20, 2) := by decide +kernel
theorem dX8_letters_9 : decode cX8_letters 9 = .ok (.iload_n 2, 1) := by decide +kernel
theorem dX8_letters_10 : decode cX8_letters 10 = .ok (.invokestatic 68, 3) := by decide +kernel
theorem dX8_letters_13 : decode cX8_letters 13 = .ok (.ifCond .ne 13, 3) := by decide +kernel
theorem dX8_letters_16 : decode cX8_letters 16 = .ok (.new 72, 3) := by decide +kernel
theorem dX8_letters_19 : decode cX8_letters 19 = .ok (.dup, 1) := by decide +kernel
theorem dX8_letters_20 : decode cX8_letters 20 = .ok (.ldc 137, 2) := by decide +kernel
theorem dX8_letters_22 : decode cX8_letters 22 = .ok (.invokespecial 76, 3) := by decide +kernel
theorem dX8_letters_25 : decode cX8_letters 25 = .ok (.athrow, 1) := by decide +kernel
theorem dX8_letters_26 : decode cX8_letters 26 = .ok (.aload_n 3, 1) := by decide +kernel
theorem dX8_letters_27 : decode cX8_letters 27 = .ok (.getfield 139, 3) := by decide +kernel
theorem dX8_letters_30 : decode cX8_letters 30 = .ok (.iload_n 2, 1) := by decide +kernel
theorem dX8_letters_31 : decode cX8_letters 31 = .ok (.iadd, 1) := by decide +kernel
theorem dX8_letters_32 : decode cX8_letters 32 = .ok (.bipush 99, 2) := by decide +kernel
theorem dX8_letters_34 : decode cX8_letters 34 = .ok (.if_icmp .le 13, 3) := by decide +kernel
theorem dX8_letters_37 : decode cX8_letters 37 = .ok (.new 57, 3) := by decide +kernel
theorem dX8_letters_40 : decode cX8_letters 40 = .ok (.dup, 1) := by decide +kernel
theorem dX8_letters_41 : decode cX8_letters 41 = .ok (.ldc 142, 2) := by decide +kernel
theorem dX8_letters_43 : decode cX8_letters 43 = .ok (.invokespecial 61, 3) := by decide +kernel
theorem dX8_letters_46 : decode cX8_letters 46 = .ok (.athrow, 1) := by decide +kernel
theorem dX8_letters_47 : decode cX8_letters 47 = .ok (.aload_n 3, 1) := by decide +kernel
theorem dX8_letters_48 : decode cX8_letters 48 = .ok (.dup, 1) := by decide +kernel
theorem dX8_letters_49 : decode cX8_letters 49 = .ok (.getfield 139, 3) := by decide +kernel
theorem dX8_letters_52 : decode cX8_letters 52 = .ok (.iload_n 2, 1) := by decide +kernel
theorem dX8_letters_53 : decode cX8_letters 53 = .ok (.iadd, 1) := by decide +kernel
theorem dX8_letters_54 : decode cX8_letters 54 = .ok (.putfield 139, 3) := by decide +kernel
theorem dX8_letters_57 : decode cX8_letters 57 = .ok (.aload_n 3, 1) := by decide +kernel
theorem dX8_letters_58 : decode cX8_letters 58 = .ok (.getfield 139, 3) := by decide +kernel
theorem dX8_letters_61 : decode cX8_letters 61 = .ok (.ireturn, 1) := by decide +kernel
theorem dX8_parcel_0 : decode cX8_parcel 0 = .ok (.aload_n 0, 1) := by decide +kernel
theorem dX8_parcel_1 : decode cX8_parcel 1 = .ok (.iload_n 1, 1) := by decide +kernel
theorem dX8_parcel_2 : decode cX8_parcel 2 = .ok (.invokevirtual 133, 3) := by decide +kernel
theorem dX8_parcel_5 : decode cX8_parcel 5 = .ok (.astore 4, 2) := by decide +kernel
theorem dX8_parcel_7 : decode cX8_parcel 7 = .ok (.iconst 1, 1) := by decide +kernel
theorem dX8_parcel_8 : decode cX8_parcel 8 = .ok (.bipush 99, 2) := by decide +kernel
theorem dX8_parcel_10 : decode cX8_parcel 10 = .ok (.iload_n 2, 1) := by decide +kernel
theorem dX8_parcel_11 : decode cX8_parcel 11 = .ok (.invokestatic 68, 3) := by decide +kernel
theorem dX8_parcel_14 : decode cX8_parcel 14 = .ok (.ifCond .eq 14, 3) := by decide +kernel
theorem dX8_parcel_17 : decode cX8_parcel 17 = .ok (.iconst 1, 1) := by decide +kernel
theorem dX8_parcel_18 : decode cX8_parcel 18 = .ok (.sipush 999, 3) := by decide +kernel
theorem dX8_parcel_21 : decode cX8_parcel 21 = .ok (.iload_n 3, 1) := by decide +kernel
theorem dX8_parcel_22 : decode cX8_parcel 22 = .ok (.invokestatic 68, 3) := by decide +kernel
theorem dX8_parcel_25 : decode cX8_parcel 25 = .ok (.ifCond .ne 13, 3) := by decide +kernel
theorem dX8_parcel_28 : decode cX8_parcel 28 = .ok (.new 72, 3) := by decide +kernel
theorem dX8_parcel_31 : decode cX8_parcel 31 = .ok (.dup, 1) := by decide +kernel
theorem dX8_parcel_32 : decode cX8_parcel 32 = .ok (.ldc 144, 2) := by decide +kernel
theorem dX8_parcel_34 : decode cX8_parcel 34 = .ok (.invokespecial 76, 3) := by decide +kernel
theorem dX8_parcel_37 : decode cX8_parcel 37 = .ok (.athrow, 1) := by decide +kernel
theorem dX8_parcel_38 : decode cX8_parcel 38 = .ok (.aload_n 0, 1) := by decide +kernel
theorem dX8_parcel_39 : decode cX8_parcel 39 = .ok (.getfield 22, 3) := by decide +kernel
theorem dX8_parcel_42 : decode cX8_parcel 42 = .ok (.invokevirtual 77, 3) := by decide +kernel
theorem dX8_parcel_45 : decode cX8_parcel 45 = .ok (.bipush 20, 2) := by decide +kernel
theorem dX8_parcel_47 : decode cX8_parcel 47 = .ok (.if_icmp .lt 13, 3) := by decide +kernel
theorem dX8_parcel_50 : decode cX8_parcel 50 = .ok (.new 57, 3) := by decide +kernel
theorem dX8_parcel_53 : decode cX8_parcel 53 = .ok (.dup, 1) := by decide +kernel
theorem dX8_parcel_54 : decode cX8_parcel 54 = .ok (.ldc 146, 2) := by decide +kernel
theorem dX8_parcel_56 : decode cX8_parcel 56 = .ok (.invokespecial 61, 3) := by decide +kernel
theorem dX8_parcel_59 : decode cX8_parcel 59 = .ok (.athrow, 1) := by decide +kernel
theorem dX8_parcel_60 : decode cX8_parcel 60 = .ok (.aload_n 0, 1) := by decide +kernel
theorem dX8_parcel_61 : decode cX8_parcel 61 = .ok (.getfield 22, 3) := by decide +kernel
theorem dX8_parcel_64 : decode cX8_parcel 64 = .ok (.new 148, 3) := by decide +kernel
theorem dX8_parcel_67 : decode cX8_parcel 67 = .ok (.dup, 1) := by decide +kernel
theorem dX8_parcel_68 : decode cX8_parcel 68 = .ok (.aload 4, 2) := by decide +kernel
theorem dX8_parcel_70 : decode cX8_parcel 70 = .ok (.iload_n 2, 1) := by decide +kernel
theorem dX8_parcel_71 : decode cX8_parcel 71 = .ok (.iload_n 3, 1) := by decide +kernel
theorem dX8_parcel_72 : decode cX8_parcel 72 = .ok (.invokespecial 150, 3) := by decide +kernel
theorem dX8_parcel_75 : decode cX8_parcel 75 = .ok (.invokevirtual 88, 3) := by decide +kernel
theorem dX8_parcel_78 : decode cX8_parcel 78 = .ok (.pop, 1) := by decide +kernel
theorem dX8_parcel_79 : decode cX8_parcel 79 = .ok (.aload_n 0, 1) := by decide +kernel
theorem dX8_parcel_80 : decode cX8_parcel 80 = .ok (.getfield 22, 3) := by decide +kernel
theorem dX8_parcel_83 : decode cX8_parcel 83 = .ok (.invokevirtual 77, 3) := by decide +kernel
theorem dX8_parcel_86 : decode cX8_parcel 86 = .ok (.iconst 1, 1) := by decide +kernel
theorem dX8_parcel_87 : decode cX8_parcel 87 = .ok (.isub, 1) := by decide +kernel
theorem dX8_parcel_88 : decode cX8_parcel 88 = .ok (.ireturn, 1) := by decide +kernel
theorem dX8_newDay_0 : decode cX8_newDay 0 = .ok (.iconst 0, 1) := by decide +kernel
theorem dX8_newDay_1 : decode cX8_newDay 1 = .ok (.istore_n 1, 1) := by decide +kernel
theorem dX8_newDay_2 : decode cX8_newDay 2 = .ok (.iconst 0, 1) := by decide +kernel
theorem dX8_newDay_3 : decode cX8_newDay 3 = .ok (.istore_n 2, 1) := by decide +kernel
theorem dX8_newDay_4 : decode cX8_newDay 4 = .ok (.iload_n 2, 1) := by decide +kernel
theorem dX8_newDay_5 : decode cX8_newDay 5 = .ok (.aload_n 0, 1) := by decide +kernel
theorem dX8_newDay_6 : decode cX8_newDay 6 = .ok (.getfield 16, 3) := by decide +kernel
theorem dX8_newDay_9 : decode cX8_newDay 9 = .ok (.invokevirtual 77, 3) := by decide +kernel
theorem dX8_newDay_12 : decode cX8_newDay 12 = .ok (.if_icmp .ge 30, 3) := by decide +kernel
theorem dX8_newDay_15 : decode cX8_newDay 15 = .ok (.aload_n 0, 1) := by decide +kernel
theorem dX8_newDay_16 : decode cX8_newDay 16 = .ok (.aload_n 0, 1) := by decide +kernel
theorem dX8_newDay_17 : decode cX8_newDay 17 = .ok (.getfield 16, 3) := by decide +kernel
theorem dX8_newDay_20 : decode cX8_newDay 20 = .ok (.iload_n 2, 1) := by decide +kernel
theorem dX8_newDay_21 : decode cX8_newDay 21 = .ok (.invokevirtual 153, 3) := by decide +kernel
theorem dX8_newDay_24 : decode cX8_newDay 24 = .ok (.checkcast 110, 3) := by decide +kernel
theorem dX8_newDay_27 : decode cX8_newDay 27 = .ok (.invokevirtual 157, 3) := by decide +kernel
theorem dX8_newDay_30 : decode cX8_newDay 30 = .ok (.ifCond .eq 6, 3) := by decide +kernel
theorem dX8_newDay_33 : decode cX8_newDay 33 = .ok (.iinc 1 1, 3) := by decide +kernel
theorem dX8_newDay_36 : decode cX8_newDay 36 = .ok (.iinc 2 1, 3) := by decide +kernel
theorem dX8_newDay_39 : decode cX8_newDay 39 = .ok (.goto (-35), 3) := by decide +kernel
theorem dX8_newDay_42 : decode cX8_newDay 42 = .ok (.iconst 0, 1) := by decide +kernel
theorem dX8_newDay_43 : decode cX8_newDay 43 = .ok (.istore_n 2, 1) := by decide +kernel
theorem dX8_newDay_44 : decode cX8_newDay 44 = .ok (.iload_n 2, 1) := by decide +kernel
theorem dX8_newDay_45 : decode cX8_newDay 45 = .ok (.aload_n 0, 1) := by decide +kernel
theorem dX8_newDay_46 : decode cX8_newDay 46 = .ok (.getfield 16, 3) := by decide +kernel
theorem dX8_newDay_49 : decode cX8_newDay 49 = .ok (.invokevirtual 77, 3) := by decide +kernel
theorem dX8_newDay_52 : decode cX8_newDay 52 = .ok (.if_icmp .ge 24, 3) := by decide +kernel
theorem dX8_newDay_55 : decode cX8_newDay 55 = .ok (.aload_n 0, 1) := by decide +kernel
theorem dX8_newDay_56 : decode cX8_newDay 56 = .ok (.getfield 16, 3) := by decide +kernel
theorem dX8_newDay_59 : decode cX8_newDay 59 = .ok (.iload_n 2, 1) := by decide +kernel
theorem dX8_newDay_60 : decode cX8_newDay 60 = .ok (.invokevirtual 153, 3) := by decide +kernel
theorem dX8_newDay_63 : decode cX8_newDay 63 = .ok (.checkcast 110, 3) := by decide +kernel
theorem dX8_newDay_66 : decode cX8_newDay 66 = .ok (.iconst 0, 1) := by decide +kernel
theorem dX8_newDay_67 : decode cX8_newDay 67 = .ok (.putfield 139, 3) := by decide +kernel
theorem dX8_newDay_70 : decode cX8_newDay 70 = .ok (.iinc 2 1, 3) := by decide +kernel
theorem dX8_newDay_73 : decode cX8_newDay 73 = .ok (.goto (-29), 3) := by decide +kernel
theorem dX8_newDay_76 : decode cX8_newDay 76 = .ok (.aload_n 0, 1) := by decide +kernel
theorem dX8_newDay_77 : decode cX8_newDay 77 = .ok (.getfield 22, 3) := by decide +kernel
theorem dX8_newDay_80 : decode cX8_newDay 80 = .ok (.invokevirtual 161, 3) := by decide +kernel
theorem dX8_newDay_83 : decode cX8_newDay 83 = .ok (.aload_n 0, 1) := by decide +kernel
theorem dX8_newDay_84 : decode cX8_newDay 84 = .ok (.iconst 0, 1) := by decide +kernel
theorem dX8_newDay_85 : decode cX8_newDay 85 = .ok (.putfield 164, 3) := by decide +kernel
theorem dX8_newDay_88 : decode cX8_newDay 88 = .ok (.iload_n 1, 1) := by decide +kernel
theorem dX8_newDay_89 : decode cX8_newDay 89 = .ok (.ireturn, 1) := by decide +kernel
theorem dX8_places_0 : decode cX8_places 0 = .ok (.aload_n 0, 1) := by decide +kernel
theorem dX8_places_1 : decode cX8_places 1 = .ok (.getfield 50, 3) := by decide +kernel
theorem dX8_places_4 : decode cX8_places 4 = .ok (.ireturn, 1) := by decide +kernel
theorem dX8_streets_0 : decode cX8_streets 0 = .ok (.aload_n 0, 1) := by decide +kernel
theorem dX8_streets_1 : decode cX8_streets 1 = .ok (.getfield 10, 3) := by decide +kernel
theorem dX8_streets_4 : decode cX8_streets 4 = .ok (.invokevirtual 77, 3) := by decide +kernel
theorem dX8_streets_7 : decode cX8_streets 7 = .ok (.ireturn, 1) := by decide +kernel
theorem dX8_houses_0 : decode cX8_houses 0 = .ok (.aload_n 0, 1) := by decide +kernel
theorem dX8_houses_1 : decode cX8_houses 1 = .ok (.getfield 16, 3) := by decide +kernel
theorem dX8_houses_4 : decode cX8_houses 4 = .ok (.invokevirtual 77, 3) := by decide +kernel
theorem dX8_houses_7 : decode cX8_houses 7 = .ok (.ireturn, 1) := by decide +kernel
theorem dX8_roundOf_0 : decode cX8_roundOf 0 = .ok (.aload_n 0, 1) := by decide +kernel
theorem dX8_roundOf_1 : decode cX8_roundOf 1 = .ok (.iload_n 1, 1) := by decide +kernel
theorem dX8_roundOf_2 : decode cX8_roundOf 2 = .ok (.invokevirtual 99, 3) := by decide +kernel
theorem dX8_roundOf_5 : decode cX8_roundOf 5 = .ok (.getfield 128, 3) := by decide +kernel
theorem dX8_roundOf_8 : decode cX8_roundOf 8 = .ok (.ireturn, 1) := by decide +kernel
theorem dX8_houseAt_0 : decode cX8_houseAt 0 = .ok (.aload_n 0, 1) := by decide +kernel
theorem dX8_houseAt_1 : decode cX8_houseAt 1 = .ok (.iload_n 1, 1) := by decide +kernel
theorem dX8_houseAt_2 : decode cX8_houseAt 2 = .ok (.invokevirtual 99, 3) := by decide +kernel
theorem dX8_houseAt_5 : decode cX8_houseAt 5 = .ok (.astore 4, 2) := by decide +kernel
theorem dX8_houseAt_7 : decode cX8_houseAt 7 = .ok (.iconst 0, 1) := by decide +kernel
theorem dX8_houseAt_8 : decode cX8_houseAt 8 = .ok (.iconst 1, 1) := by decide +kernel
theorem dX8_houseAt_9 : decode cX8_houseAt 9 = .ok (.iload_n 2, 1) := by decide +kernel
theorem dX8_houseAt_10 : decode cX8_houseAt 10 = .ok (.invokestatic 68, 3) := by decide +kernel
theorem dX8_houseAt_13 : decode cX8_houseAt 13 = .ok (.ifCond .ne 13, 3) := by decide +kernel
theorem dX8_houseAt_16 : decode cX8_houseAt 16 = .ok (.new 72, 3) := by decide +kernel
theorem dX8_houseAt_19 : decode cX8_houseAt 19 = .ok (.dup, 1) := by decide +kernel
theorem dX8_houseAt_20 : decode cX8_houseAt 20 = .ok (.ldc 167, 2) := by decide +kernel
theorem dX8_houseAt_22 : decode cX8_houseAt 22 = .ok (.invokespecial 76, 3) := by decide +kernel
theorem dX8_houseAt_25 : decode cX8_houseAt 25 = .ok (.athrow, 1) := by decide +kernel
theorem dX8_houseAt_26 : decode cX8_houseAt 26 = .ok (.iconst 0, 1) := by decide +kernel
theorem dX8_houseAt_27 : decode cX8_houseAt 27 = .ok (.istore 5, 2) := by decide +kernel
theorem dX8_houseAt_29 : decode cX8_houseAt 29 = .ok (.iload 5, 2) := by decide +kernel
theorem dX8_houseAt_31 : decode cX8_houseAt 31 = .ok (.aload_n 0, 1) := by decide +kernel
theorem dX8_houseAt_32 : decode cX8_houseAt 32 = .ok (.getfield 16, 3) := by decide +kernel
theorem dX8_houseAt_35 : decode cX8_houseAt 35 = .ok (.invokevirtual 77, 3) := by decide +kernel
theorem dX8_houseAt_38 : decode cX8_houseAt 38 = .ok (.if_icmp .ge 58, 3) := by decide +kernel
theorem dX8_houseAt_41 : decode cX8_houseAt 41 = .ok (.aload_n 0, 1) := by decide +kernel
theorem dX8_houseAt_42 : decode cX8_houseAt 42 = .ok (.getfield 16, 3) := by decide +kernel
theorem dX8_houseAt_45 : decode cX8_houseAt 45 = .ok (.iload 5, 2) := by decide +kernel
theorem dX8_houseAt_47 : decode cX8_houseAt 47 = .ok (.invokevirtual 153, 3) := by decide +kernel
theorem dX8_houseAt_50 : decode cX8_houseAt 50 = .ok (.checkcast 110, 3) := by decide +kernel
theorem dX8_houseAt_53 : decode cX8_houseAt 53 = .ok (.astore 6, 2) := by decide +kernel
theorem dX8_houseAt_55 : decode cX8_houseAt 55 = .ok (.aload 6, 2) := by decide +kernel
theorem dX8_houseAt_57 : decode cX8_houseAt 57 = .ok (.getfield 169, 3) := by decide +kernel
theorem dX8_houseAt_60 : decode cX8_houseAt 60 = .ok (.aload 4, 2) := by decide +kernel
theorem dX8_houseAt_62 : decode cX8_houseAt 62 = .ok (.if_acmp .ne 28, 3) := by decide +kernel
theorem dX8_houseAt_65 : decode cX8_houseAt 65 = .ok (.aload 6, 2) := by decide +kernel
theorem dX8_houseAt_67 : decode cX8_houseAt 67 = .ok (.getfield 173, 3) := by decide +kernel
theorem dX8_houseAt_70 : decode cX8_houseAt 70 = .ok (.iload_n 2, 1) := by decide +kernel
theorem dX8_houseAt_71 : decode cX8_houseAt 71 = .ok (.if_icmp .ne 19, 3) := by decide +kernel
theorem dX8_houseAt_74 : decode cX8_houseAt 74 = .ok (.aload_n 0, 1) := by decide +kernel
theorem dX8_houseAt_75 : decode cX8_houseAt 75 = .ok (.aload 6, 2) := by decide +kernel
theorem dX8_houseAt_77 : decode cX8_houseAt 77 = .ok (.invokevirtual 176, 3) := by decide +kernel
theorem dX8_houseAt_80 : decode cX8_houseAt 80 = .ok (.iload_n 3, 1) := by decide +kernel
theorem dX8_houseAt_81 : decode cX8_houseAt 81 = .ok (.if_icmp .ne 9, 3) := by decide +kernel
theorem dX8_houseAt_84 : decode cX8_houseAt 84 = .ok (.aload 6, 2) := by decide +kernel
theorem dX8_houseAt_86 : decode cX8_houseAt 86 = .ok (.getfield 115, 3) := by decide +kernel
theorem dX8_houseAt_89 : decode cX8_houseAt 89 = .ok (.ireturn, 1) := by decide +kernel
theorem dX8_houseAt_90 : decode cX8_houseAt 90 = .ok (.iinc 5 1, 3) := by decide +kernel
theorem dX8_houseAt_93 : decode cX8_houseAt 93 = .ok (.goto (-64), 3) := by decide +kernel
theorem dX8_houseAt_96 : decode cX8_houseAt 96 = .ok (.new 180, 3) := by decide +kernel
theorem dX8_houseAt_99 : decode cX8_houseAt 99 = .ok (.dup, 1) := by decide +kernel
theorem dX8_houseAt_100 : decode cX8_houseAt 100 = .ok (.ldc 182, 2) := by decide +kernel
theorem dX8_houseAt_102 : decode cX8_houseAt 102 = .ok (.invokespecial 184, 3) := by decide +kernel
theorem dX8_houseAt_105 : decode cX8_houseAt 105 = .ok (.athrow, 1) := by decide +kernel
theorem dX8_lettersOf_0 : decode cX8_lettersOf 0 = .ok (.aload_n 0, 1) := by decide +kernel
theorem dX8_lettersOf_1 : decode cX8_lettersOf 1 = .ok (.iload_n 1, 1) := by decide +kernel
theorem dX8_lettersOf_2 : decode cX8_lettersOf 2 = .ok (.invokevirtual 133, 3) := by decide +kernel
theorem dX8_lettersOf_5 : decode cX8_lettersOf 5 = .ok (.getfield 139, 3) := by decide +kernel
theorem dX8_lettersOf_8 : decode cX8_lettersOf 8 = .ok (.ireturn, 1) := by decide +kernel
theorem dX8_isDue_0 : decode cX8_isDue 0 = .ok (.aload_n 0, 1) := by decide +kernel
theorem dX8_isDue_1 : decode cX8_isDue 1 = .ok (.aload_n 0, 1) := by decide +kernel
theorem dX8_isDue_2 : decode cX8_isDue 2 = .ok (.iload_n 1, 1) := by decide +kernel
theorem dX8_isDue_3 : decode cX8_isDue 3 = .ok (.invokevirtual 133, 3) := by decide +kernel
theorem dX8_isDue_6 : decode cX8_isDue 6 = .ok (.invokevirtual 157, 3) := by decide +kernel
theorem dX8_isDue_9 : decode cX8_isDue 9 = .ok (.ireturn, 1) := by decide +kernel
theorem dX8_due_0 : decode cX8_due 0 = .ok (.aload_n 0, 1) := by decide +kernel
theorem dX8_due_1 : decode cX8_due 1 = .ok (.iload_n 1, 1) := by decide +kernel
theorem dX8_due_2 : decode cX8_due 2 = .ok (.invokevirtual 124, 3) := by decide +kernel
theorem dX8_due_5 : decode cX8_due 5 = .ok (.pop, 1) := by decide +kernel
theorem dX8_due_6 : decode cX8_due 6 = .ok (.aload_n 0, 1) := by decide +kernel
theorem dX8_due_7 : decode cX8_due 7 = .ok (.iload_n 1, 1) := by decide +kernel
theorem dX8_due_8 : decode cX8_due 8 = .ok (.invokestatic 185, 3) := by decide +kernel
theorem dX8_due_11 : decode cX8_due 11 = .ok (.invokevirtual 189, 3) := by decide +kernel
theorem dX8_due_14 : decode cX8_due 14 = .ok (.ireturn, 1) := by decide +kernel
theorem dX8_distance_0 : decode cX8_distance 0 = .ok (.aload_n 0, 1) := by decide +kernel
theorem dX8_distance_1 : decode cX8_distance 1 = .ok (.iload_n 1, 1) := by decide +kernel
theorem dX8_distance_2 : decode cX8_distance 2 = .ok (.invokevirtual 64, 3) := by decide +kernel
theorem dX8_distance_5 : decode cX8_distance 5 = .ok (.aload_n 0, 1) := by decide +kernel
theorem dX8_distance_6 : decode cX8_distance 6 = .ok (.iload_n 2, 1) := by decide +kernel
theorem dX8_distance_7 : decode cX8_distance 7 = .ok (.invokevirtual 64, 3) := by decide +kernel
theorem dX8_distance_10 : decode cX8_distance 10 = .ok (.aload_n 0, 1) := by decide +kernel
theorem dX8_distance_11 : decode cX8_distance 11 = .ok (.getfield 28, 3) := by decide +kernel
theorem dX8_distance_14 : decode cX8_distance 14 = .ok (.getfield 192, 3) := by decide +kernel
theorem dX8_distance_17 : decode cX8_distance 17 = .ok (.iload_n 1, 1) := by decide +kernel
theorem dX8_distance_18 : decode cX8_distance 18 = .ok (.iload_n 2, 1) := by decide +kernel
theorem dX8_distance_19 : decode cX8_distance 19 = .ok (.invokevirtual 195, 3) := by decide +kernel
theorem dX8_distance_22 : decode cX8_distance 22 = .ok (.invokestatic 199, 3) := by decide +kernel
theorem dX8_distance_25 : decode cX8_distance 25 = .ok (.ireturn, 1) := by decide +kernel
theorem dX8_distanceByRounds_0 : decode cX8_distanceByRounds 0 = .ok (.aload_n 0, 1) := by decide +kernel
theorem dX8_distanceByRounds_1 : decode cX8_distanceByRounds 1 = .ok (.iload_n 1, 1) := by decide +kernel
theorem dX8_distanceByRounds_2 : decode cX8_distanceByRounds 2 = .ok (.invokevirtual 64, 3) := by decide +kernel
theorem dX8_distanceByRounds_5 : decode cX8_distanceByRounds 5 = .ok (.aload_n 0, 1) := by decide +kernel
theorem dX8_distanceByRounds_6 : decode cX8_distanceByRounds 6 = .ok (.iload_n 2, 1) := by decide +kernel
theorem dX8_distanceByRounds_7 : decode cX8_distanceByRounds 7 = .ok (.invokevirtual 64, 3) := by decide +kernel
theorem dX8_distanceByRounds_10 : decode cX8_distanceByRounds 10 = .ok (.aload_n 0, 1) := by decide +kernel
theorem dX8_distanceByRounds_11 : decode cX8_distanceByRounds 11 = .ok (.getfield 28, 3) := by decide +kernel
theorem dX8_distanceByRounds_14 : decode cX8_distanceByRounds 14 = .ok (.aload_n 0, 1) := by decide +kernel
theorem dX8_distanceByRounds_15 : decode cX8_distanceByRounds 15 = .ok (.getfield 10, 3) := by decide +kernel
theorem dX8_distanceByRounds_18 : decode cX8_distanceByRounds 18 = .ok (.iload_n 1, 1) := by decide +kernel
theorem dX8_distanceByRounds_19 : decode cX8_distanceByRounds 19 = .ok (.iload_n 2, 1) := by decide +kernel
theorem dX8_distanceByRounds_20 : decode cX8_distanceByRounds 20 = .ok (.invokevirtual 202, 3) := by decide +kernel
theorem dX8_distanceByRounds_23 : decode cX8_distanceByRounds 23 = .ok (.invokestatic 199, 3) := by decide +kernel
theorem dX8_distanceByRounds_26 : decode cX8_distanceByRounds 26 = .ok (.ireturn, 1) := by decide +kernel
theorem dX8_needed_0 : decode cX8_needed 0 = .ok (.aload_n 0, 1) := by decide +kernel
theorem dX8_needed_1 : decode cX8_needed 1 = .ok (.iload_n 1, 1) := by decide +kernel
theorem dX8_needed_2 : decode cX8_needed 2 = .ok (.invokevirtual 124, 3) := by decide +kernel
theorem dX8_needed_5 : decode cX8_needed 5 = .ok (.pop, 1) := by decide +kernel
theorem dX8_needed_6 : decode cX8_needed 6 = .ok (.aload_n 0, 1) := by decide +kernel
theorem dX8_needed_7 : decode cX8_needed 7 = .ok (.iload_n 1, 1) := by decide +kernel
theorem dX8_needed_8 : decode cX8_needed 8 = .ok (.invokestatic 185, 3) := by decide +kernel
theorem dX8_needed_11 : decode cX8_needed 11 = .ok (.invokevirtual 206, 3) := by decide +kernel
theorem dX8_needed_14 : decode cX8_needed 14 = .ok (.aload_n 0, 1) := by decide +kernel
theorem dX8_needed_15 : decode cX8_needed 15 = .ok (.getfield 37, 3) := by decide +kernel
theorem dX8_needed_18 : decode cX8_needed 18 = .ok (.getfield 209, 3) := by decide +kernel
theorem dX8_needed_21 : decode cX8_needed 21 = .ok (.ireturn, 1) := by decide +kernel
theorem dX8_hasWalk_0 : decode cX8_hasWalk 0 = .ok (.aload_n 0, 1) := by decide +kernel
theorem dX8_hasWalk_1 : decode cX8_hasWalk 1 = .ok (.iload_n 1, 1) := by decide +kernel
theorem dX8_hasWalk_2 : decode cX8_hasWalk 2 = .ok (.invokevirtual 124, 3) := by decide +kernel
theorem dX8_hasWalk_5 : decode cX8_hasWalk 5 = .ok (.pop, 1) := by decide +kernel
theorem dX8_hasWalk_6 : decode cX8_hasWalk 6 = .ok (.aload_n 0, 1) := by decide +kernel
theorem dX8_hasWalk_7 : decode cX8_hasWalk 7 = .ok (.iload_n 1, 1) := by decide +kernel
theorem dX8_hasWalk_8 : decode cX8_hasWalk 8 = .ok (.invokestatic 185, 3) := by decide +kernel
theorem dX8_hasWalk_11 : decode cX8_hasWalk 11 = .ok (.invokevirtual 206, 3) := by decide +kernel
theorem dX8_hasWalk_14 : decode cX8_hasWalk 14 = .ok (.aload_n 0, 1) := by decide +kernel
theorem dX8_hasWalk_15 : decode cX8_hasWalk 15 = .ok (.getfield 37, 3) := by decide +kernel
theorem dX8_hasWalk_18 : decode cX8_hasWalk 18 = .ok (.invokevirtual 212, 3) := by decide +kernel
theorem dX8_hasWalk_21 : decode cX8_hasWalk 21 = .ok (.ireturn, 1) := by decide +kernel
theorem dX8_walkLength_0 : decode cX8_walkLength 0 = .ok (.aload_n 0, 1) := by decide +kernel
theorem dX8_walkLength_1 : decode cX8_walkLength 1 = .ok (.iload_n 1, 1) := by decide +kernel
theorem dX8_walkLength_2 : decode cX8_walkLength 2 = .ok (.invokevirtual 216, 3) := by decide +kernel
theorem dX8_walkLength_5 : decode cX8_walkLength 5 = .ok (.aload_n 0, 1) := by decide +kernel
theorem dX8_walkLength_6 : decode cX8_walkLength 6 = .ok (.getfield 37, 3) := by decide +kernel
theorem dX8_walkLength_9 : decode cX8_walkLength 9 = .ok (.invokevirtual 219, 3) := by decide +kernel
theorem dX8_walkLength_12 : decode cX8_walkLength 12 = .ok (.ireturn, 1) := by decide +kernel
theorem dX8_lengthByTrying_0 : decode cX8_lengthByTrying 0 = .ok (.aload_n 0, 1) := by decide +kernel
theorem dX8_lengthByTrying_1 : decode cX8_lengthByTrying 1 = .ok (.iload_n 1, 1) := by decide +kernel
theorem dX8_lengthByTrying_2 : decode cX8_lengthByTrying 2 = .ok (.invokevirtual 216, 3) := by decide +kernel
theorem dX8_lengthByTrying_5 : decode cX8_lengthByTrying 5 = .ok (.aload_n 0, 1) := by decide +kernel
theorem dX8_lengthByTrying_6 : decode cX8_lengthByTrying 6 = .ok (.getfield 37, 3) := by decide +kernel
theorem dX8_lengthByTrying_9 : decode cX8_lengthByTrying 9 = .ok (.getfield 209, 3) := by decide +kernel
theorem dX8_lengthByTrying_12 : decode cX8_lengthByTrying 12 = .ok (.iconst 5, 1) := by decide +kernel
theorem dX8_lengthByTrying_13 : decode cX8_lengthByTrying 13 = .ok (.if_icmp .le 13, 3) := by decide +kernel
theorem dX8_lengthByTrying_16 : decode cX8_lengthByTrying 16 = .ok (.new 222, 3) := by decide +kernel
theorem dX8_lengthByTrying_19 : decode cX8_lengthByTrying 19 = .ok (.dup, 1) := by decide +kernel
theorem dX8_lengthByTrying_20 : decode cX8_lengthByTrying 20 = .ok (.ldc 224, 2) := by decide +kernel
theorem dX8_lengthByTrying_22 : decode cX8_lengthByTrying 22 = .ok (.invokespecial 226, 3) := by decide +kernel
theorem dX8_lengthByTrying_25 : decode cX8_lengthByTrying 25 = .ok (.athrow, 1) := by decide +kernel
theorem dX8_lengthByTrying_26 : decode cX8_lengthByTrying 26 = .ok (.aload_n 0, 1) := by decide +kernel
theorem dX8_lengthByTrying_27 : decode cX8_lengthByTrying 27 = .ok (.getfield 37, 3) := by decide +kernel
theorem dX8_lengthByTrying_30 : decode cX8_lengthByTrying 30 = .ok (.invokevirtual 227, 3) := by decide +kernel
theorem dX8_lengthByTrying_33 : decode cX8_lengthByTrying 33 = .ok (.ireturn, 1) := by decide +kernel
theorem dX8_passAt_0 : decode cX8_passAt 0 = .ok (.aload_n 0, 1) := by decide +kernel
theorem dX8_passAt_1 : decode cX8_passAt 1 = .ok (.iload_n 1, 1) := by decide +kernel
theorem dX8_passAt_2 : decode cX8_passAt 2 = .ok (.invokevirtual 216, 3) := by decide +kernel
theorem dX8_passAt_5 : decode cX8_passAt 5 = .ok (.aload_n 0, 1) := by decide +kernel
theorem dX8_passAt_6 : decode cX8_passAt 6 = .ok (.getfield 37, 3) := by decide +kernel
theorem dX8_passAt_9 : decode cX8_passAt 9 = .ok (.invokevirtual 230, 3) := by decide +kernel
theorem dX8_passAt_12 : decode cX8_passAt 12 = .ok (.iload_n 2, 1) := by decide +kernel
theorem dX8_passAt_13 : decode cX8_passAt 13 = .ok (.ifCond .lt 17, 3) := by decide +kernel
theorem dX8_passAt_16 : decode cX8_passAt 16 = .ok (.iload_n 2, 1) := by decide +kernel
theorem dX8_passAt_17 : decode cX8_passAt 17 = .ok (.aload_n 0, 1) := by decide +kernel
theorem dX8_passAt_18 : decode cX8_passAt 18 = .ok (.getfield 37, 3) := by decide +kernel
theorem dX8_passAt_21 : decode cX8_passAt 21 = .ok (.getfield 233, 3) := by decide +kernel
theorem dX8_passAt_24 : decode cX8_passAt 24 = .ok (.invokevirtual 77, 3) := by decide +kernel
theorem dX8_passAt_27 : decode cX8_passAt 27 = .ok (.if_icmp .lt 13, 3) := by decide +kernel
theorem dX8_passAt_30 : decode cX8_passAt 30 = .ok (.new 180, 3) := by decide +kernel
theorem dX8_passAt_33 : decode cX8_passAt 33 = .ok (.dup, 1) := by decide +kernel
theorem dX8_passAt_34 : decode cX8_passAt 34 = .ok (.ldc 236, 2) := by decide +kernel
theorem dX8_passAt_36 : decode cX8_passAt 36 = .ok (.invokespecial 184, 3) := by decide +kernel
theorem dX8_passAt_39 : decode cX8_passAt 39 = .ok (.athrow, 1) := by decide +kernel
theorem dX8_passAt_40 : decode cX8_passAt 40 = .ok (.aload_n 0, 1) := by decide +kernel
theorem dX8_passAt_41 : decode cX8_passAt 41 = .ok (.getfield 37, 3) := by decide +kernel
theorem dX8_passAt_44 : decode cX8_passAt 44 = .ok (.getfield 233, 3) := by decide +kernel
theorem dX8_passAt_47 : decode cX8_passAt 47 = .ok (.iload_n 2, 1) := by decide +kernel
theorem dX8_passAt_48 : decode cX8_passAt 48 = .ok (.invokevirtual 153, 3) := by decide +kernel
theorem dX8_passAt_51 : decode cX8_passAt 51 = .ok (.checkcast 238, 3) := by decide +kernel
theorem dX8_passAt_54 : decode cX8_passAt 54 = .ok (.getfield 240, 3) := by decide +kernel
theorem dX8_passAt_57 : decode cX8_passAt 57 = .ok (.ireturn, 1) := by decide +kernel
theorem dX8_walkPlaces_0 : decode cX8_walkPlaces 0 = .ok (.aload_n 0, 1) := by decide +kernel
theorem dX8_walkPlaces_1 : decode cX8_walkPlaces 1 = .ok (.iload_n 1, 1) := by decide +kernel
theorem dX8_walkPlaces_2 : decode cX8_walkPlaces 2 = .ok (.invokevirtual 216, 3) := by decide +kernel
theorem dX8_walkPlaces_5 : decode cX8_walkPlaces 5 = .ok (.aload_n 0, 1) := by decide +kernel
theorem dX8_walkPlaces_6 : decode cX8_walkPlaces 6 = .ok (.getfield 37, 3) := by decide +kernel
theorem dX8_walkPlaces_9 : decode cX8_walkPlaces 9 = .ok (.invokevirtual 230, 3) := by decide +kernel
theorem dX8_walkPlaces_12 : decode cX8_walkPlaces 12 = .ok (.aload_n 0, 1) := by decide +kernel
theorem dX8_walkPlaces_13 : decode cX8_walkPlaces 13 = .ok (.getfield 37, 3) := by decide +kernel
theorem dX8_walkPlaces_16 : decode cX8_walkPlaces 16 = .ok (.getfield 241, 3) := by decide +kernel
theorem dX8_walkPlaces_19 : decode cX8_walkPlaces 19 = .ok (.ireturn, 1) := by decide +kernel
theorem dX8_walkAt_0 : decode cX8_walkAt 0 = .ok (.aload_n 0, 1) := by decide +kernel
theorem dX8_walkAt_1 : decode cX8_walkAt 1 = .ok (.iload_n 1, 1) := by decide +kernel
theorem dX8_walkAt_2 : decode cX8_walkAt 2 = .ok (.invokevirtual 216, 3) := by decide +kernel
theorem dX8_walkAt_5 : decode cX8_walkAt 5 = .ok (.aload_n 0, 1) := by decide +kernel
theorem dX8_walkAt_6 : decode cX8_walkAt 6 = .ok (.getfield 37, 3) := by decide +kernel
theorem dX8_walkAt_9 : decode cX8_walkAt 9 = .ok (.invokevirtual 230, 3) := by decide +kernel
theorem dX8_walkAt_12 : decode cX8_walkAt 12 = .ok (.iload_n 2, 1) := by decide +kernel
theorem dX8_walkAt_13 : decode cX8_walkAt 13 = .ok (.ifCond .lt 26, 3) := by decide +kernel
theorem dX8_walkAt_16 : decode cX8_walkAt 16 = .ok (.iload_n 2, 1) := by decide +kernel
theorem dX8_walkAt_17 : decode cX8_walkAt 17 = .ok (.aload_n 0, 1) := by decide +kernel
theorem dX8_walkAt_18 : decode cX8_walkAt 18 = .ok (.getfield 37, 3) := by decide +kernel
theorem dX8_walkAt_21 : decode cX8_walkAt 21 = .ok (.getfield 241, 3) := by decide +kernel
theorem dX8_walkAt_24 : decode cX8_walkAt 24 = .ok (.if_icmp .ge 15, 3) := by decide +kernel
theorem dX8_walkAt_27 : decode cX8_walkAt 27 = .ok (.iload_n 2, 1) := by decide +kernel
theorem dX8_walkAt_28 : decode cX8_walkAt 28 = .ok (.aload_n 0, 1) := by decide +kernel
theorem dX8_walkAt_29 : decode cX8_walkAt 29 = .ok (.getfield 37, 3) := by decide +kernel
theorem dX8_walkAt_32 : decode cX8_walkAt 32 = .ok (.getfield 244, 3) := by decide +kernel
theorem dX8_walkAt_35 : decode cX8_walkAt 35 = .ok (.arraylength, 1) := by decide +kernel
theorem dX8_walkAt_36 : decode cX8_walkAt 36 = .ok (.if_icmp .lt 13, 3) := by decide +kernel
theorem dX8_walkAt_39 : decode cX8_walkAt 39 = .ok (.new 180, 3) := by decide +kernel
theorem dX8_walkAt_42 : decode cX8_walkAt 42 = .ok (.dup, 1) := by decide +kernel
theorem dX8_walkAt_43 : decode cX8_walkAt 43 = .ok (.ldc 248, 2) := by decide +kernel
theorem dX8_walkAt_45 : decode cX8_walkAt 45 = .ok (.invokespecial 184, 3) := by decide +kernel
theorem dX8_walkAt_48 : decode cX8_walkAt 48 = .ok (.athrow, 1) := by decide +kernel
theorem dX8_walkAt_49 : decode cX8_walkAt 49 = .ok (.aload_n 0, 1) := by decide +kernel
theorem dX8_walkAt_50 : decode cX8_walkAt 50 = .ok (.getfield 37, 3) := by decide +kernel
theorem dX8_walkAt_53 : decode cX8_walkAt 53 = .ok (.getfield 244, 3) := by decide +kernel
theorem dX8_walkAt_56 : decode cX8_walkAt 56 = .ok (.iload_n 2, 1) := by decide +kernel
theorem dX8_walkAt_57 : decode cX8_walkAt 57 = .ok (.iaload, 1) := by decide +kernel
theorem dX8_walkAt_58 : decode cX8_walkAt 58 = .ok (.ireturn, 1) := by decide +kernel
theorem dX8_walkTime_0 : decode cX8_walkTime 0 = .ok (.aload_n 0, 1) := by decide +kernel
theorem dX8_walkTime_1 : decode cX8_walkTime 1 = .ok (.iload_n 1, 1) := by decide +kernel
theorem dX8_walkTime_2 : decode cX8_walkTime 2 = .ok (.invokevirtual 216, 3) := by decide +kernel
theorem dX8_walkTime_5 : decode cX8_walkTime 5 = .ok (.aload_n 0, 1) := by decide +kernel
theorem dX8_walkTime_6 : decode cX8_walkTime 6 = .ok (.getfield 37, 3) := by decide +kernel
theorem dX8_walkTime_9 : decode cX8_walkTime 9 = .ok (.invokevirtual 219, 3) := by decide +kernel
theorem dX8_walkTime_12 : decode cX8_walkTime 12 = .ok (.aload_n 0, 1) := by decide +kernel
theorem dX8_walkTime_13 : decode cX8_walkTime 13 = .ok (.iload_n 1, 1) := by decide +kernel
theorem dX8_walkTime_14 : decode cX8_walkTime 14 = .ok (.invokestatic 185, 3) := by decide +kernel
theorem dX8_walkTime_17 : decode cX8_walkTime 17 = .ok (.invokevirtual 250, 3) := by decide +kernel
theorem dX8_walkTime_20 : decode cX8_walkTime 20 = .ok (.iadd, 1) := by decide +kernel
theorem dX8_walkTime_21 : decode cX8_walkTime 21 = .ok (.ireturn, 1) := by decide +kernel
theorem dX8_isInTime_0 : decode cX8_isInTime 0 = .ok (.aload_n 0, 1) := by decide +kernel
theorem dX8_isInTime_1 : decode cX8_isInTime 1 = .ok (.iload_n 1, 1) := by decide +kernel
theorem dX8_isInTime_2 : decode cX8_isInTime 2 = .ok (.invokevirtual 124, 3) := by decide +kernel
theorem dX8_isInTime_5 : decode cX8_isInTime 5 = .ok (.getfield 253, 3) := by decide +kernel
theorem dX8_isInTime_8 : decode cX8_isInTime 8 = .ok (.istore_n 2, 1) := by decide +kernel
theorem dX8_isInTime_9 : decode cX8_isInTime 9 = .ok (.iload_n 1, 1) := by decide +kernel
theorem dX8_isInTime_10 : decode cX8_isInTime 10 = .ok (.invokestatic 185, 3) := by decide +kernel
theorem dX8_isInTime_13 : decode cX8_isInTime 13 = .ok (.istore_n 3, 1) := by decide +kernel
theorem dX8_isInTime_14 : decode cX8_isInTime 14 = .ok (.aload_n 0, 1) := by decide +kernel
theorem dX8_isInTime_15 : decode cX8_isInTime 15 = .ok (.iload_n 2, 1) := by decide +kernel
theorem dX8_isInTime_16 : decode cX8_isInTime 16 = .ok (.aload_n 0, 1) := by decide +kernel
theorem dX8_isInTime_17 : decode cX8_isInTime 17 = .ok (.iload_n 3, 1) := by decide +kernel
theorem dX8_isInTime_18 : decode cX8_isInTime 18 = .ok (.invokevirtual 256, 3) := by decide +kernel
theorem dX8_isInTime_21 : decode cX8_isInTime 21 = .ok (.iload_n 3, 1) := by decide +kernel
theorem dX8_isInTime_22 : decode cX8_isInTime 22 = .ok (.invokevirtual 259, 3) := by decide +kernel
theorem dX8_isInTime_25 : decode cX8_isInTime 25 = .ok (.ireturn, 1) := by decide +kernel
theorem dX8_walkTo_0 : decode cX8_walkTo 0 = .ok (.aload_n 0, 1) := by decide +kernel
theorem dX8_walkTo_1 : decode cX8_walkTo 1 = .ok (.iload_n 1, 1) := by decide +kernel
theorem dX8_walkTo_2 : decode cX8_walkTo 2 = .ok (.invokevirtual 133, 3) := by decide +kernel
theorem dX8_walkTo_5 : decode cX8_walkTo 5 = .ok (.astore_n 2, 1) := by decide +kernel
theorem dX8_walkTo_6 : decode cX8_walkTo 6 = .ok (.aload_n 0, 1) := by decide +kernel
theorem dX8_walkTo_7 : decode cX8_walkTo 7 = .ok (.aload_n 2, 1) := by decide +kernel
theorem dX8_walkTo_8 : decode cX8_walkTo 8 = .ok (.invokevirtual 157, 3) := by decide +kernel
theorem dX8_walkTo_11 : decode cX8_walkTo 11 = .ok (.ifCond .eq 14, 3) := by decide +kernel
theorem dX8_walkTo_14 : decode cX8_walkTo 14 = .ok (.aload_n 2, 1) := by decide +kernel
theorem dX8_walkTo_15 : decode cX8_walkTo 15 = .ok (.getfield 169, 3) := by decide +kernel
theorem dX8_walkTo_18 : decode cX8_walkTo 18 = .ok (.getfield 128, 3) := by decide +kernel
theorem dX8_walkTo_21 : decode cX8_walkTo 21 = .ok (.iconst (-1), 1) := by decide +kernel
theorem dX8_walkTo_22 : decode cX8_walkTo 22 = .ok (.if_icmp .ne 14, 3) := by decide +kernel
theorem dX8_walkTo_25 : decode cX8_walkTo 25 = .ok (.new 222, 3) := by decide +kernel
theorem dX8_walkTo_28 : decode cX8_walkTo 28 = .ok (.dup, 1) := by decide +kernel
theorem dX8_walkTo_29 : decode cX8_walkTo 29 = .ok (.ldc_w 262, 3) := by decide +kernel
theorem dX8_walkTo_32 : decode cX8_walkTo 32 = .ok (.invokespecial 226, 3) := by decide +kernel
theorem dX8_walkTo_35 : decode cX8_walkTo 35 = .ok (.athrow, 1) := by decide +kernel
theorem dX8_walkTo_36 : decode cX8_walkTo 36 = .ok (.aload_n 0, 1) := by decide +kernel
theorem dX8_walkTo_37 : decode cX8_walkTo 37 = .ok (.aload_n 2, 1) := by decide +kernel
theorem dX8_walkTo_38 : decode cX8_walkTo 38 = .ok (.getfield 169, 3) := by decide +kernel
theorem dX8_walkTo_41 : decode cX8_walkTo 41 = .ok (.getfield 128, 3) := by decide +kernel
theorem dX8_walkTo_44 : decode cX8_walkTo 44 = .ok (.invokevirtual 216, 3) := by decide +kernel
theorem dX8_walkTo_47 : decode cX8_walkTo 47 = .ok (.aload_n 0, 1) := by decide +kernel
theorem dX8_walkTo_48 : decode cX8_walkTo 48 = .ok (.getfield 37, 3) := by decide +kernel
theorem dX8_walkTo_51 : decode cX8_walkTo 51 = .ok (.invokevirtual 230, 3) := by decide +kernel
theorem dX8_walkTo_54 : decode cX8_walkTo 54 = .ok (.aload_n 0, 1) := by decide +kernel
theorem dX8_walkTo_55 : decode cX8_walkTo 55 = .ok (.getfield 37, 3) := by decide +kernel
theorem dX8_walkTo_58 : decode cX8_walkTo 58 = .ok (.aload_n 2, 1) := by decide +kernel
theorem dX8_walkTo_59 : decode cX8_walkTo 59 = .ok (.invokevirtual 264, 3) := by decide +kernel
theorem dX8_walkTo_62 : decode cX8_walkTo 62 = .ok (.ireturn, 1) := by decide +kernel
theorem dX8_deliver_0 : decode cX8_deliver 0 = .ok (.aload_n 0, 1) := by decide +kernel
theorem dX8_deliver_1 : decode cX8_deliver 1 = .ok (.iload_n 1, 1) := by decide +kernel
theorem dX8_deliver_2 : decode cX8_deliver 2 = .ok (.invokevirtual 124, 3) := by decide +kernel
theorem dX8_deliver_5 : decode cX8_deliver 5 = .ok (.getfield 253, 3) := by decide +kernel
theorem dX8_deliver_8 : decode cX8_deliver 8 = .ok (.istore_n 2, 1) := by decide +kernel
theorem dX8_deliver_9 : decode cX8_deliver 9 = .ok (.iload_n 1, 1) := by decide +kernel
theorem dX8_deliver_10 : decode cX8_deliver 10 = .ok (.invokestatic 185, 3) := by decide +kernel
theorem dX8_deliver_13 : decode cX8_deliver 13 = .ok (.istore_n 3, 1) := by decide +kernel
theorem dX8_deliver_14 : decode cX8_deliver 14 = .ok (.aload_n 0, 1) := by decide +kernel
theorem dX8_deliver_15 : decode cX8_deliver 15 = .ok (.iload_n 3, 1) := by decide +kernel
theorem dX8_deliver_16 : decode cX8_deliver 16 = .ok (.invokevirtual 256, 3) := by decide +kernel
theorem dX8_deliver_19 : decode cX8_deliver 19 = .ok (.istore 4, 2) := by decide +kernel
theorem dX8_deliver_21 : decode cX8_deliver 21 = .ok (.aload_n 0, 1) := by decide +kernel
theorem dX8_deliver_22 : decode cX8_deliver 22 = .ok (.iload_n 2, 1) := by decide +kernel
theorem dX8_deliver_23 : decode cX8_deliver 23 = .ok (.iload 4, 2) := by decide +kernel
theorem dX8_deliver_25 : decode cX8_deliver 25 = .ok (.iload_n 3, 1) := by decide +kernel
theorem dX8_deliver_26 : decode cX8_deliver 26 = .ok (.invokevirtual 259, 3) := by decide +kernel
theorem dX8_deliver_29 : decode cX8_deliver 29 = .ok (.ifCond .ne 14, 3) := by decide +kernel
theorem dX8_deliver_32 : decode cX8_deliver 32 = .ok (.new 57, 3) := by decide +kernel
theorem dX8_deliver_35 : decode cX8_deliver 35 = .ok (.dup, 1) := by decide +kernel
theorem dX8_deliver_36 : decode cX8_deliver 36 = .ok (.ldc_w 267, 3) := by decide +kernel
theorem dX8_deliver_39 : decode cX8_deliver 39 = .ok (.invokespecial 61, 3) := by decide +kernel
theorem dX8_deliver_42 : decode cX8_deliver 42 = .ok (.athrow, 1) := by decide +kernel
theorem dX8_deliver_43 : decode cX8_deliver 43 = .ok (.aload_n 0, 1) := by decide +kernel
theorem dX8_deliver_44 : decode cX8_deliver 44 = .ok (.iload_n 3, 1) := by decide +kernel
theorem dX8_deliver_45 : decode cX8_deliver 45 = .ok (.invokevirtual 189, 3) := by decide +kernel
theorem dX8_deliver_48 : decode cX8_deliver 48 = .ok (.istore 5, 2) := by decide +kernel
theorem dX8_deliver_50 : decode cX8_deliver 50 = .ok (.aload_n 0, 1) := by decide +kernel
theorem dX8_deliver_51 : decode cX8_deliver 51 = .ok (.iload_n 3, 1) := by decide +kernel
theorem dX8_deliver_52 : decode cX8_deliver 52 = .ok (.invokevirtual 269, 3) := by decide +kernel
theorem dX8_deliver_55 : decode cX8_deliver 55 = .ok (.aload_n 0, 1) := by decide +kernel
theorem dX8_deliver_56 : decode cX8_deliver 56 = .ok (.dup, 1) := by decide +kernel
theorem dX8_deliver_57 : decode cX8_deliver 57 = .ok (.getfield 272, 3) := by decide +kernel
theorem dX8_deliver_60 : decode cX8_deliver 60 = .ok (.iload 4, 2) := by decide +kernel
theorem dX8_deliver_62 : decode cX8_deliver 62 = .ok (.i2l, 1) := by decide +kernel
theorem dX8_deliver_63 : decode cX8_deliver 63 = .ok (.ladd, 1) := by decide +kernel
theorem dX8_deliver_64 : decode cX8_deliver 64 = .ok (.putfield 272, 3) := by decide +kernel
theorem dX8_deliver_67 : decode cX8_deliver 67 = .ok (.iload 5, 2) := by decide +kernel
theorem dX8_deliver_69 : decode cX8_deliver 69 = .ok (.ireturn, 1) := by decide +kernel
theorem dX8_saving_0 : decode cX8_saving 0 = .ok (.aload_n 0, 1) := by decide +kernel
theorem dX8_saving_1 : decode cX8_saving 1 = .ok (.iload_n 1, 1) := by decide +kernel
theorem dX8_saving_2 : decode cX8_saving 2 = .ok (.iload_n 2, 1) := by decide +kernel
theorem dX8_saving_3 : decode cX8_saving 3 = .ok (.invokevirtual 276, 3) := by decide +kernel
theorem dX8_saving_6 : decode cX8_saving 6 = .ok (.ireturn, 1) := by decide +kernel
theorem dX8_mergeInto_0 : decode cX8_mergeInto 0 = .ok (.aload_n 0, 1) := by decide +kernel
theorem dX8_mergeInto_1 : decode cX8_mergeInto 1 = .ok (.iload_n 1, 1) := by decide +kernel
theorem dX8_mergeInto_2 : decode cX8_mergeInto 2 = .ok (.iload_n 2, 1) := by decide +kernel
theorem dX8_mergeInto_3 : decode cX8_mergeInto 3 = .ok (.invokevirtual 276, 3) := by decide +kernel
theorem dX8_mergeInto_6 : decode cX8_mergeInto 6 = .ok (.istore_n 3, 1) := by decide +kernel
theorem dX8_mergeInto_7 : decode cX8_mergeInto 7 = .ok (.iload_n 1, 1) := by decide +kernel
theorem dX8_mergeInto_8 : decode cX8_mergeInto 8 = .ok (.invokestatic 185, 3) := by decide +kernel
theorem dX8_mergeInto_11 : decode cX8_mergeInto 11 = .ok (.iload_n 2, 1) := by decide +kernel
theorem dX8_mergeInto_12 : decode cX8_mergeInto 12 = .ok (.invokestatic 185, 3) := by decide +kernel
theorem dX8_mergeInto_15 : decode cX8_mergeInto 15 = .ok (.ior, 1) := by decide +kernel
theorem dX8_mergeInto_16 : decode cX8_mergeInto 16 = .ok (.istore 4, 2) := by decide +kernel
theorem dX8_mergeInto_18 : decode cX8_mergeInto 18 = .ok (.aload_n 0, 1) := by decide +kernel
theorem dX8_mergeInto_19 : decode cX8_mergeInto 19 = .ok (.aload_n 0, 1) := by decide +kernel
theorem dX8_mergeInto_20 : decode cX8_mergeInto 20 = .ok (.iload_n 1, 1) := by decide +kernel
theorem dX8_mergeInto_21 : decode cX8_mergeInto 21 = .ok (.invokevirtual 124, 3) := by decide +kernel
theorem dX8_mergeInto_24 : decode cX8_mergeInto 24 = .ok (.getfield 253, 3) := by decide +kernel
theorem dX8_mergeInto_27 : decode cX8_mergeInto 27 = .ok (.aload_n 0, 1) := by decide +kernel
theorem dX8_mergeInto_28 : decode cX8_mergeInto 28 = .ok (.iload 4, 2) := by decide +kernel
theorem dX8_mergeInto_30 : decode cX8_mergeInto 30 = .ok (.invokevirtual 256, 3) := by decide +kernel
theorem dX8_mergeInto_33 : decode cX8_mergeInto 33 = .ok (.iload 4, 2) := by decide +kernel
theorem dX8_mergeInto_35 : decode cX8_mergeInto 35 = .ok (.invokevirtual 259, 3) := by decide +kernel
theorem dX8_mergeInto_38 : decode cX8_mergeInto 38 = .ok (.ifCond .ne 14, 3) := by decide +kernel
theorem dX8_mergeInto_41 : decode cX8_mergeInto 41 = .ok (.new 57, 3) := by decide +kernel
theorem dX8_mergeInto_44 : decode cX8_mergeInto 44 = .ok (.dup, 1) := by decide +kernel
theorem dX8_mergeInto_45 : decode cX8_mergeInto 45 = .ok (.ldc_w 279, 3) := by decide +kernel
theorem dX8_mergeInto_48 : decode cX8_mergeInto 48 = .ok (.invokespecial 61, 3) := by decide +kernel
theorem dX8_mergeInto_51 : decode cX8_mergeInto 51 = .ok (.athrow, 1) := by decide +kernel
theorem dX8_mergeInto_52 : decode cX8_mergeInto 52 = .ok (.iconst 0, 1) := by decide +kernel
theorem dX8_mergeInto_53 : decode cX8_mergeInto 53 = .ok (.istore 5, 2) := by decide +kernel
theorem dX8_mergeInto_55 : decode cX8_mergeInto 55 = .ok (.iload 5, 2) := by decide +kernel
theorem dX8_mergeInto_57 : decode cX8_mergeInto 57 = .ok (.aload_n 0, 1) := by decide +kernel
theorem dX8_mergeInto_58 : decode cX8_mergeInto 58 = .ok (.getfield 10, 3) := by decide +kernel
theorem dX8_mergeInto_61 : decode cX8_mergeInto 61 = .ok (.invokevirtual 77, 3) := by decide +kernel
theorem dX8_mergeInto_64 : decode cX8_mergeInto 64 = .ok (.if_icmp .ge 38, 3) := by decide +kernel
theorem dX8_mergeInto_67 : decode cX8_mergeInto 67 = .ok (.aload_n 0, 1) := by decide +kernel
theorem dX8_mergeInto_68 : decode cX8_mergeInto 68 = .ok (.getfield 10, 3) := by decide +kernel
theorem dX8_mergeInto_71 : decode cX8_mergeInto 71 = .ok (.iload 5, 2) := by decide +kernel
theorem dX8_mergeInto_73 : decode cX8_mergeInto 73 = .ok (.invokevirtual 153, 3) := by decide +kernel
theorem dX8_mergeInto_76 : decode cX8_mergeInto 76 = .ok (.checkcast 83, 3) := by decide +kernel
theorem dX8_mergeInto_79 : decode cX8_mergeInto 79 = .ok (.astore 6, 2) := by decide +kernel
theorem dX8_mergeInto_81 : decode cX8_mergeInto 81 = .ok (.aload 6, 2) := by decide +kernel
theorem dX8_mergeInto_83 : decode cX8_mergeInto 83 = .ok (.getfield 128, 3) := by decide +kernel
theorem dX8_mergeInto_86 : decode cX8_mergeInto 86 = .ok (.iload_n 2, 1) := by decide +kernel
theorem dX8_mergeInto_87 : decode cX8_mergeInto 87 = .ok (.if_icmp .ne 9, 3) := by decide +kernel
theorem dX8_mergeInto_90 : decode cX8_mergeInto 90 = .ok (.aload 6, 2) := by decide +kernel
theorem dX8_mergeInto_92 : decode cX8_mergeInto 92 = .ok (.iload_n 1, 1) := by decide +kernel
theorem dX8_mergeInto_93 : decode cX8_mergeInto 93 = .ok (.putfield 128, 3) := by decide +kernel
theorem dX8_mergeInto_96 : decode cX8_mergeInto 96 = .ok (.iinc 5 1, 3) := by decide +kernel
theorem dX8_mergeInto_99 : decode cX8_mergeInto 99 = .ok (.goto (-44), 3) := by decide +kernel
theorem dX8_mergeInto_102 : decode cX8_mergeInto 102 = .ok (.iload_n 3, 1) := by decide +kernel
theorem dX8_mergeInto_103 : decode cX8_mergeInto 103 = .ok (.ireturn, 1) := by decide +kernel
theorem dX8_bestMerge_0 : decode cX8_bestMerge 0 = .ok (.aload_n 0, 1) := by decide +kernel
theorem dX8_bestMerge_1 : decode cX8_bestMerge 1 = .ok (.invokevirtual 281, 3) := by decide +kernel
theorem dX8_bestMerge_4 : decode cX8_bestMerge 4 = .ok (.iconst (-1), 1) := by decide +kernel
theorem dX8_bestMerge_5 : decode cX8_bestMerge 5 = .ok (.istore_n 1, 1) := by decide +kernel
theorem dX8_bestMerge_6 : decode cX8_bestMerge 6 = .ok (.iconst 0, 1) := by decide +kernel
theorem dX8_bestMerge_7 : decode cX8_bestMerge 7 = .ok (.istore_n 2, 1) := by decide +kernel
theorem dX8_bestMerge_8 : decode cX8_bestMerge 8 = .ok (.iconst 0, 1) := by decide +kernel
theorem dX8_bestMerge_9 : decode cX8_bestMerge 9 = .ok (.istore_n 3, 1) := by decide +kernel
theorem dX8_bestMerge_10 : decode cX8_bestMerge 10 = .ok (.iload_n 3, 1) := by decide +kernel
theorem dX8_bestMerge_11 : decode cX8_bestMerge 11 = .ok (.aload_n 0, 1) := by decide +kernel
theorem dX8_bestMerge_12 : decode cX8_bestMerge 12 = .ok (.getfield 19, 3) := by decide +kernel
theorem dX8_bestMerge_15 : decode cX8_bestMerge 15 = .ok (.invokevirtual 77, 3) := by decide +kernel
theorem dX8_bestMerge_18 : decode cX8_bestMerge 18 = .ok (.if_icmp .ge 83, 3) := by decide +kernel
theorem dX8_bestMerge_21 : decode cX8_bestMerge 21 = .ok (.aload_n 0, 1) := by decide +kernel
theorem dX8_bestMerge_22 : decode cX8_bestMerge 22 = .ok (.getfield 19, 3) := by decide +kernel
theorem dX8_bestMerge_25 : decode cX8_bestMerge 25 = .ok (.iload_n 3, 1) := by decide +kernel
theorem dX8_bestMerge_26 : decode cX8_bestMerge 26 = .ok (.invokevirtual 153, 3) := by decide +kernel
theorem dX8_bestMerge_29 : decode cX8_bestMerge 29 = .ok (.checkcast 120, 3) := by decide +kernel
theorem dX8_bestMerge_32 : decode cX8_bestMerge 32 = .ok (.getfield 253, 3) := by decide +kernel
theorem dX8_bestMerge_35 : decode cX8_bestMerge 35 = .ok (.istore 4, 2) := by decide +kernel
theorem dX8_bestMerge_37 : decode cX8_bestMerge 37 = .ok (.iconst 0, 1) := by decide +kernel
theorem dX8_bestMerge_38 : decode cX8_bestMerge 38 = .ok (.istore 5, 2) := by decide +kernel
theorem dX8_bestMerge_40 : decode cX8_bestMerge 40 = .ok (.iload 5, 2) := by decide +kernel
theorem dX8_bestMerge_42 : decode cX8_bestMerge 42 = .ok (.aload_n 0, 1) := by decide +kernel
theorem dX8_bestMerge_43 : decode cX8_bestMerge 43 = .ok (.getfield 19, 3) := by decide +kernel
theorem dX8_bestMerge_46 : decode cX8_bestMerge 46 = .ok (.invokevirtual 77, 3) := by decide +kernel
theorem dX8_bestMerge_49 : decode cX8_bestMerge 49 = .ok (.if_icmp .ge 46, 3) := by decide +kernel
theorem dX8_bestMerge_52 : decode cX8_bestMerge 52 = .ok (.iload_n 3, 1) := by decide +kernel
theorem dX8_bestMerge_53 : decode cX8_bestMerge 53 = .ok (.iload 5, 2) := by decide +kernel
theorem dX8_bestMerge_55 : decode cX8_bestMerge 55 = .ok (.if_icmp .ne 7, 3) := by decide +kernel
theorem dX8_bestMerge_58 : decode cX8_bestMerge 58 = .ok (.iconst 0, 1) := by decide +kernel
theorem dX8_bestMerge_59 : decode cX8_bestMerge 59 = .ok (.goto 12, 3) := by decide +kernel
theorem dX8_bestMerge_62 : decode cX8_bestMerge 62 = .ok (.aload_n 0, 1) := by decide +kernel
theorem dX8_bestMerge_63 : decode cX8_bestMerge 63 = .ok (.iload 4, 2) := by decide +kernel
theorem dX8_bestMerge_65 : decode cX8_bestMerge 65 = .ok (.iload_n 3, 1) := by decide +kernel
theorem dX8_bestMerge_66 : decode cX8_bestMerge 66 = .ok (.iload 5, 2) := by decide +kernel
theorem dX8_bestMerge_68 : decode cX8_bestMerge 68 = .ok (.invokevirtual 284, 3) := by decide +kernel
theorem dX8_bestMerge_71 : decode cX8_bestMerge 71 = .ok (.istore 6, 2) := by decide +kernel
theorem dX8_bestMerge_73 : decode cX8_bestMerge 73 = .ok (.iload 6, 2) := by decide +kernel
theorem dX8_bestMerge_75 : decode cX8_bestMerge 75 = .ok (.iload_n 2, 1) := by decide +kernel
theorem dX8_bestMerge_76 : decode cX8_bestMerge 76 = .ok (.if_icmp .le 13, 3) := by decide +kernel
theorem dX8_bestMerge_79 : decode cX8_bestMerge 79 = .ok (.iload 6, 2) := by decide +kernel
theorem dX8_bestMerge_81 : decode cX8_bestMerge 81 = .ok (.istore_n 2, 1) := by decide +kernel
theorem dX8_bestMerge_82 : decode cX8_bestMerge 82 = .ok (.iconst 4, 1) := by decide +kernel
theorem dX8_bestMerge_83 : decode cX8_bestMerge 83 = .ok (.iload_n 3, 1) := by decide +kernel
theorem dX8_bestMerge_84 : decode cX8_bestMerge 84 = .ok (.imul, 1) := by decide +kernel
theorem dX8_bestMerge_85 : decode cX8_bestMerge 85 = .ok (.iload 5, 2) := by decide +kernel
theorem dX8_bestMerge_87 : decode cX8_bestMerge 87 = .ok (.iadd, 1) := by decide +kernel
theorem dX8_bestMerge_88 : decode cX8_bestMerge 88 = .ok (.istore_n 1, 1) := by decide +kernel
theorem dX8_bestMerge_89 : decode cX8_bestMerge 89 = .ok (.iinc 5 1, 3) := by decide +kernel
theorem dX8_bestMerge_92 : decode cX8_bestMerge 92 = .ok (.goto (-52), 3) := by decide +kernel
theorem dX8_bestMerge_95 : decode cX8_bestMerge 95 = .ok (.iinc 3 1, 3) := by decide +kernel
theorem dX8_bestMerge_98 : decode cX8_bestMerge 98 = .ok (.goto (-88), 3) := by decide +kernel
theorem dX8_bestMerge_101 : decode cX8_bestMerge 101 = .ok (.iload_n 1, 1) := by decide +kernel
theorem dX8_bestMerge_102 : decode cX8_bestMerge 102 = .ok (.iconst (-1), 1) := by decide +kernel
theorem dX8_bestMerge_103 : decode cX8_bestMerge 103 = .ok (.if_icmp .ne 14, 3) := by decide +kernel
theorem dX8_bestMerge_106 : decode cX8_bestMerge 106 = .ok (.new 288, 3) := by decide +kernel
theorem dX8_bestMerge_109 : decode cX8_bestMerge 109 = .ok (.dup, 1) := by decide +kernel
theorem dX8_bestMerge_110 : decode cX8_bestMerge 110 = .ok (.ldc_w 290, 3) := by decide +kernel
theorem dX8_bestMerge_113 : decode cX8_bestMerge 113 = .ok (.invokespecial 292, 3) := by decide +kernel
theorem dX8_bestMerge_116 : decode cX8_bestMerge 116 = .ok (.athrow, 1) := by decide +kernel
theorem dX8_bestMerge_117 : decode cX8_bestMerge 117 = .ok (.iload_n 1, 1) := by decide +kernel
theorem dX8_bestMerge_118 : decode cX8_bestMerge 118 = .ok (.ireturn, 1) := by decide +kernel
theorem dX8_parcelState_0 : decode cX8_parcelState 0 = .ok (.aload_n 0, 1) := by decide +kernel
theorem dX8_parcelState_1 : decode cX8_parcelState 1 = .ok (.iload_n 1, 1) := by decide +kernel
theorem dX8_parcelState_2 : decode cX8_parcelState 2 = .ok (.invokevirtual 293, 3) := by decide +kernel
theorem dX8_parcelState_5 : decode cX8_parcelState 5 = .ok (.getfield 297, 3) := by decide +kernel
theorem dX8_parcelState_8 : decode cX8_parcelState 8 = .ok (.ifCond .eq 8, 3) := by decide +kernel
theorem dX8_parcelState_11 : decode cX8_parcelState 11 = .ok (.bipush 100, 2) := by decide +kernel
theorem dX8_parcelState_13 : decode cX8_parcelState 13 = .ok (.goto 5, 3) := by decide +kernel
theorem dX8_parcelState_16 : decode cX8_parcelState 16 = .ok (.bipush 119, 2) := by decide +kernel
theorem dX8_parcelState_18 : decode cX8_parcelState 18 = .ok (.ireturn, 1) := by decide +kernel
theorem dX8_isHeavy_0 : decode cX8_isHeavy 0 = .ok (.aload_n 0, 1) := by decide +kernel
theorem dX8_isHeavy_1 : decode cX8_isHeavy 1 = .ok (.iload_n 1, 1) := by decide +kernel
theorem dX8_isHeavy_2 : decode cX8_isHeavy 2 = .ok (.invokevirtual 293, 3) := by decide +kernel
theorem dX8_isHeavy_5 : decode cX8_isHeavy 5 = .ok (.getfield 301, 3) := by decide +kernel
theorem dX8_isHeavy_8 : decode cX8_isHeavy 8 = .ok (.aload_n 0, 1) := by decide +kernel
theorem dX8_isHeavy_9 : decode cX8_isHeavy 9 = .ok (.getfield 54, 3) := by decide +kernel
theorem dX8_isHeavy_12 : decode cX8_isHeavy 12 = .ok (.if_icmp .le 7, 3) := by decide +kernel
theorem dX8_isHeavy_15 : decode cX8_isHeavy 15 = .ok (.iconst 1, 1) := by decide +kernel
theorem dX8_isHeavy_16 : decode cX8_isHeavy 16 = .ok (.goto 4, 3) := by decide +kernel
theorem dX8_isHeavy_19 : decode cX8_isHeavy 19 = .ok (.iconst 0, 1) := by decide +kernel
theorem dX8_isHeavy_20 : decode cX8_isHeavy 20 = .ok (.ireturn, 1) := by decide +kernel
theorem dX8_nextParcel_0 : decode cX8_nextParcel 0 = .ok (.iconst (-1), 1) := by decide +kernel
theorem dX8_nextParcel_1 : decode cX8_nextParcel 1 = .ok (.istore_n 1, 1) := by decide +kernel
theorem dX8_nextParcel_2 : decode cX8_nextParcel 2 = .ok (.aconst_null, 1) := by decide +kernel
theorem dX8_nextParcel_3 : decode cX8_nextParcel 3 = .ok (.astore_n 2, 1) := by decide +kernel
theorem dX8_nextParcel_4 : decode cX8_nextParcel 4 = .ok (.iconst 0, 1) := by decide +kernel
theorem dX8_nextParcel_5 : decode cX8_nextParcel 5 = .ok (.istore_n 3, 1) := by decide +kernel
theorem dX8_nextParcel_6 : decode cX8_nextParcel 6 = .ok (.iload_n 3, 1) := by decide +kernel
theorem dX8_nextParcel_7 : decode cX8_nextParcel 7 = .ok (.aload_n 0, 1) := by decide +kernel
theorem dX8_nextParcel_8 : decode cX8_nextParcel 8 = .ok (.getfield 22, 3) := by decide +kernel
theorem dX8_nextParcel_11 : decode cX8_nextParcel 11 = .ok (.invokevirtual 77, 3) := by decide +kernel
theorem dX8_nextParcel_14 : decode cX8_nextParcel 14 = .ok (.if_icmp .ge 73, 3) := by decide +kernel
theorem dX8_nextParcel_17 : decode cX8_nextParcel 17 = .ok (.aload_n 0, 1) := by decide +kernel
theorem dX8_nextParcel_18 : decode cX8_nextParcel 18 = .ok (.getfield 22, 3) := by decide +kernel
theorem dX8_nextParcel_21 : decode cX8_nextParcel 21 = .ok (.iload_n 3, 1) := by decide +kernel
theorem dX8_nextParcel_22 : decode cX8_nextParcel 22 = .ok (.invokevirtual 153, 3) := by decide +kernel
theorem dX8_nextParcel_25 : decode cX8_nextParcel 25 = .ok (.checkcast 148, 3) := by decide +kernel
theorem dX8_nextParcel_28 : decode cX8_nextParcel 28 = .ok (.astore 4, 2) := by decide +kernel
theorem dX8_nextParcel_30 : decode cX8_nextParcel 30 = .ok (.aload 4, 2) := by decide +kernel
theorem dX8_nextParcel_32 : decode cX8_nextParcel 32 = .ok (.getfield 297, 3) := by decide +kernel
theorem dX8_nextParcel_35 : decode cX8_nextParcel 35 = .ok (.ifCond .ne 19, 3) := by decide +kernel
theorem dX8_nextParcel_38 : decode cX8_nextParcel 38 = .ok (.aload 4, 2) := by decide +kernel
theorem dX8_nextParcel_40 : decode cX8_nextParcel 40 = .ok (.getfield 301, 3) := by decide +kernel
theorem dX8_nextParcel_43 : decode cX8_nextParcel 43 = .ok (.aload_n 0, 1) := by decide +kernel
theorem dX8_nextParcel_44 : decode cX8_nextParcel 44 = .ok (.getfield 54, 3) := by decide +kernel
theorem dX8_nextParcel_47 : decode cX8_nextParcel 47 = .ok (.if_icmp .le 7, 3) := by decide +kernel
theorem dX8_nextParcel_50 : decode cX8_nextParcel 50 = .ok (.iconst 1, 1) := by decide +kernel
theorem dX8_nextParcel_51 : decode cX8_nextParcel 51 = .ok (.goto 4, 3) := by decide +kernel
theorem dX8_nextParcel_54 : decode cX8_nextParcel 54 = .ok (.iconst 0, 1) := by decide +kernel
theorem dX8_nextParcel_55 : decode cX8_nextParcel 55 = .ok (.istore 5, 2) := by decide +kernel
theorem dX8_nextParcel_57 : decode cX8_nextParcel 57 = .ok (.iload 5, 2) := by decide +kernel
theorem dX8_nextParcel_59 : decode cX8_nextParcel 59 = .ok (.ifCond .eq 22, 3) := by decide +kernel
theorem dX8_nextParcel_62 : decode cX8_nextParcel 62 = .ok (.aload_n 2, 1) := by decide +kernel
theorem dX8_nextParcel_63 : decode cX8_nextParcel 63 = .ok (.ifnull 13, 3) := by decide +kernel
theorem dX8_nextParcel_66 : decode cX8_nextParcel 66 = .ok (.aload_n 0, 1) := by decide +kernel
theorem dX8_nextParcel_67 : decode cX8_nextParcel 67 = .ok (.aload 4, 2) := by decide +kernel
theorem dX8_nextParcel_69 : decode cX8_nextParcel 69 = .ok (.aload_n 2, 1) := by decide +kernel
theorem dX8_nextParcel_70 : decode cX8_nextParcel 70 = .ok (.invokevirtual 304, 3) := by decide +kernel
theorem dX8_nextParcel_73 : decode cX8_nextParcel 73 = .ok (.ifCond .eq 8, 3) := by decide +kernel
theorem dX8_nextParcel_76 : decode cX8_nextParcel 76 = .ok (.aload 4, 2) := by decide +kernel
theorem dX8_nextParcel_78 : decode cX8_nextParcel 78 = .ok (.astore_n 2, 1) := by decide +kernel
theorem dX8_nextParcel_79 : decode cX8_nextParcel 79 = .ok (.iload_n 3, 1) := by decide +kernel
theorem dX8_nextParcel_80 : decode cX8_nextParcel 80 = .ok (.istore_n 1, 1) := by decide +kernel
theorem dX8_nextParcel_81 : decode cX8_nextParcel 81 = .ok (.iinc 3 1, 3) := by decide +kernel
theorem dX8_nextParcel_84 : decode cX8_nextParcel 84 = .ok (.goto (-78), 3) := by decide +kernel
theorem dX8_nextParcel_87 : decode cX8_nextParcel 87 = .ok (.iload_n 1, 1) := by decide +kernel
theorem dX8_nextParcel_88 : decode cX8_nextParcel 88 = .ok (.iconst (-1), 1) := by decide +kernel
theorem dX8_nextParcel_89 : decode cX8_nextParcel 89 = .ok (.if_icmp .ne 14, 3) := by decide +kernel
theorem dX8_nextParcel_92 : decode cX8_nextParcel 92 = .ok (.new 288, 3) := by decide +kernel
theorem dX8_nextParcel_95 : decode cX8_nextParcel 95 = .ok (.dup, 1) := by decide +kernel
theorem dX8_nextParcel_96 : decode cX8_nextParcel 96 = .ok (.ldc_w 308, 3) := by decide +kernel
theorem dX8_nextParcel_99 : decode cX8_nextParcel 99 = .ok (.invokespecial 292, 3) := by decide +kernel
theorem dX8_nextParcel_102 : decode cX8_nextParcel 102 = .ok (.athrow, 1) := by decide +kernel
theorem dX8_nextParcel_103 : decode cX8_nextParcel 103 = .ok (.iload_n 1, 1) := by decide +kernel
theorem dX8_nextParcel_104 : decode cX8_nextParcel 104 = .ok (.ireturn, 1) := by decide +kernel
theorem dX8_tripOf_0 : decode cX8_tripOf 0 = .ok (.aload_n 0, 1) := by decide +kernel
theorem dX8_tripOf_1 : decode cX8_tripOf 1 = .ok (.aload_n 0, 1) := by decide +kernel
theorem dX8_tripOf_2 : decode cX8_tripOf 2 = .ok (.iload_n 1, 1) := by decide +kernel
theorem dX8_tripOf_3 : decode cX8_tripOf 3 = .ok (.invokevirtual 293, 3) := by decide +kernel
theorem dX8_tripOf_6 : decode cX8_tripOf 6 = .ok (.invokevirtual 310, 3) := by decide +kernel
theorem dX8_tripOf_9 : decode cX8_tripOf 9 = .ok (.ireturn, 1) := by decide +kernel
theorem dX8_dispatch_0 : decode cX8_dispatch 0 = .ok (.aload_n 0, 1) := by decide +kernel
theorem dX8_dispatch_1 : decode cX8_dispatch 1 = .ok (.aload_n 0, 1) := by decide +kernel
theorem dX8_dispatch_2 : decode cX8_dispatch 2 = .ok (.invokevirtual 314, 3) := by decide +kernel
theorem dX8_dispatch_5 : decode cX8_dispatch 5 = .ok (.invokevirtual 293, 3) := by decide +kernel
theorem dX8_dispatch_8 : decode cX8_dispatch 8 = .ok (.astore_n 1, 1) := by decide +kernel
theorem dX8_dispatch_9 : decode cX8_dispatch 9 = .ok (.aload_n 0, 1) := by decide +kernel
theorem dX8_dispatch_10 : decode cX8_dispatch 10 = .ok (.aload_n 1, 1) := by decide +kernel
theorem dX8_dispatch_11 : decode cX8_dispatch 11 = .ok (.invokevirtual 310, 3) := by decide +kernel
theorem dX8_dispatch_14 : decode cX8_dispatch 14 = .ok (.istore_n 2, 1) := by decide +kernel
theorem dX8_dispatch_15 : decode cX8_dispatch 15 = .ok (.aload_n 1, 1) := by decide +kernel
theorem dX8_dispatch_16 : decode cX8_dispatch 16 = .ok (.iconst 1, 1) := by decide +kernel
theorem dX8_dispatch_17 : decode cX8_dispatch 17 = .ok (.putfield 297, 3) := by decide +kernel
theorem dX8_dispatch_20 : decode cX8_dispatch 20 = .ok (.aload_n 0, 1) := by decide +kernel
theorem dX8_dispatch_21 : decode cX8_dispatch 21 = .ok (.dup, 1) := by decide +kernel
theorem dX8_dispatch_22 : decode cX8_dispatch 22 = .ok (.getfield 164, 3) := by decide +kernel
theorem dX8_dispatch_25 : decode cX8_dispatch 25 = .ok (.iload_n 2, 1) := by decide +kernel
theorem dX8_dispatch_26 : decode cX8_dispatch 26 = .ok (.iadd, 1) := by decide +kernel
theorem dX8_dispatch_27 : decode cX8_dispatch 27 = .ok (.putfield 164, 3) := by decide +kernel
theorem dX8_dispatch_30 : decode cX8_dispatch 30 = .ok (.aload_n 0, 1) := by decide +kernel
theorem dX8_dispatch_31 : decode cX8_dispatch 31 = .ok (.dup, 1) := by decide +kernel
theorem dX8_dispatch_32 : decode cX8_dispatch 32 = .ok (.getfield 317, 3) := by decide +kernel
theorem dX8_dispatch_35 : decode cX8_dispatch 35 = .ok (.iconst 1, 1) := by decide +kernel
theorem dX8_dispatch_36 : decode cX8_dispatch 36 = .ok (.iadd, 1) := by decide +kernel
theorem dX8_dispatch_37 : decode cX8_dispatch 37 = .ok (.putfield 317, 3) := by decide +kernel
theorem dX8_dispatch_40 : decode cX8_dispatch 40 = .ok (.aload_n 0, 1) := by decide +kernel
theorem dX8_dispatch_41 : decode cX8_dispatch 41 = .ok (.getfield 164, 3) := by decide +kernel
theorem dX8_dispatch_44 : decode cX8_dispatch 44 = .ok (.iload_n 2, 1) := by decide +kernel
theorem dX8_dispatch_45 : decode cX8_dispatch 45 = .ok (.iconst 2, 1) := by decide +kernel
theorem dX8_dispatch_46 : decode cX8_dispatch 46 = .ok (.idiv, 1) := by decide +kernel
theorem dX8_dispatch_47 : decode cX8_dispatch 47 = .ok (.isub, 1) := by decide +kernel
theorem dX8_dispatch_48 : decode cX8_dispatch 48 = .ok (.aload_n 1, 1) := by decide +kernel
theorem dX8_dispatch_49 : decode cX8_dispatch 49 = .ok (.getfield 320, 3) := by decide +kernel
theorem dX8_dispatch_52 : decode cX8_dispatch 52 = .ok (.if_icmp .le 7, 3) := by decide +kernel
theorem dX8_dispatch_55 : decode cX8_dispatch 55 = .ok (.iconst 1, 1) := by decide +kernel
theorem dX8_dispatch_56 : decode cX8_dispatch 56 = .ok (.goto 4, 3) := by decide +kernel
theorem dX8_dispatch_59 : decode cX8_dispatch 59 = .ok (.iconst 0, 1) := by decide +kernel
theorem dX8_dispatch_60 : decode cX8_dispatch 60 = .ok (.istore_n 3, 1) := by decide +kernel
theorem dX8_dispatch_61 : decode cX8_dispatch 61 = .ok (.iload_n 3, 1) := by decide +kernel
theorem dX8_dispatch_62 : decode cX8_dispatch 62 = .ok (.ifCond .eq 13, 3) := by decide +kernel
theorem dX8_dispatch_65 : decode cX8_dispatch 65 = .ok (.aload_n 0, 1) := by decide +kernel
theorem dX8_dispatch_66 : decode cX8_dispatch 66 = .ok (.dup, 1) := by decide +kernel
theorem dX8_dispatch_67 : decode cX8_dispatch 67 = .ok (.getfield 323, 3) := by decide +kernel
theorem dX8_dispatch_70 : decode cX8_dispatch 70 = .ok (.iconst 1, 1) := by decide +kernel
theorem dX8_dispatch_71 : decode cX8_dispatch 71 = .ok (.iadd, 1) := by decide +kernel
theorem dX8_dispatch_72 : decode cX8_dispatch 72 = .ok (.putfield 323, 3) := by decide +kernel
theorem dX8_dispatch_75 : decode cX8_dispatch 75 = .ok (.iload_n 3, 1) := by decide +kernel
theorem dX8_dispatch_76 : decode cX8_dispatch 76 = .ok (.ireturn, 1) := by decide +kernel
theorem dX8_vanClock_0 : decode cX8_vanClock 0 = .ok (.aload_n 0, 1) := by decide +kernel
theorem dX8_vanClock_1 : decode cX8_vanClock 1 = .ok (.getfield 164, 3) := by decide +kernel
theorem dX8_vanClock_4 : decode cX8_vanClock 4 = .ok (.ireturn, 1) := by decide +kernel
theorem dX8_late_0 : decode cX8_late 0 = .ok (.aload_n 0, 1) := by decide +kernel
theorem dX8_late_1 : decode cX8_late 1 = .ok (.getfield 323, 3) := by decide +kernel
theorem dX8_late_4 : decode cX8_late 4 = .ok (.ireturn, 1) := by decide +kernel
theorem dX8_walked_0 : decode cX8_walked 0 = .ok (.aload_n 0, 1) := by decide +kernel
theorem dX8_walked_1 : decode cX8_walked 1 = .ok (.getfield 272, 3) := by decide +kernel
theorem dX8_walked_4 : decode cX8_walked 4 = .ok (.lreturn, 1) := by decide +kernel
theorem dX8_lateShare_0 : decode cX8_lateShare 0 = .ok (.aload_n 0, 1) := by decide +kernel
theorem dX8_lateShare_1 : decode cX8_lateShare 1 = .ok (.getfield 317, 3) := by decide +kernel
theorem dX8_lateShare_4 : decode cX8_lateShare 4 = .ok (.ifCond .ne 14, 3) := by decide +kernel
theorem dX8_lateShare_7 : decode cX8_lateShare 7 = .ok (.new 326, 3) := by decide +kernel
theorem dX8_lateShare_10 : decode cX8_lateShare 10 = .ok (.dup, 1) := by decide +kernel
theorem dX8_lateShare_11 : decode cX8_lateShare 11 = .ok (.ldc_w 328, 3) := by decide +kernel
theorem dX8_lateShare_14 : decode cX8_lateShare 14 = .ok (.invokespecial 330, 3) := by decide +kernel
theorem dX8_lateShare_17 : decode cX8_lateShare 17 = .ok (.athrow, 1) := by decide +kernel
theorem dX8_lateShare_18 : decode cX8_lateShare 18 = .ok (.aload_n 0, 1) := by decide +kernel
theorem dX8_lateShare_19 : decode cX8_lateShare 19 = .ok (.getfield 323, 3) := by decide +kernel
theorem dX8_lateShare_22 : decode cX8_lateShare 22 = .ok (.i2f, 1) := by decide +kernel
theorem dX8_lateShare_23 : decode cX8_lateShare 23 = .ok (.aload_n 0, 1) := by decide +kernel
theorem dX8_lateShare_24 : decode cX8_lateShare 24 = .ok (.getfield 317, 3) := by decide +kernel
theorem dX8_lateShare_27 : decode cX8_lateShare 27 = .ok (.i2f, 1) := by decide +kernel
theorem dX8_lateShare_28 : decode cX8_lateShare 28 = .ok (.fdiv, 1) := by decide +kernel
theorem dX8_lateShare_29 : decode cX8_lateShare 29 = .ok (.freturn, 1) := by decide +kernel
theorem dX8_meanLetters_0 : decode cX8_meanLetters 0 = .ok (.iconst 0, 1) := by decide +kernel
theorem dX8_meanLetters_1 : decode cX8_meanLetters 1 = .ok (.istore_n 1, 1) := by decide +kernel
theorem dX8_meanLetters_2 : decode cX8_meanLetters 2 = .ok (.iconst 0, 1) := by decide +kernel
theorem dX8_meanLetters_3 : decode cX8_meanLetters 3 = .ok (.istore_n 2, 1) := by decide +kernel
theorem dX8_meanLetters_4 : decode cX8_meanLetters 4 = .ok (.iconst 0, 1) := by decide +kernel
theorem dX8_meanLetters_5 : decode cX8_meanLetters 5 = .ok (.istore_n 3, 1) := by decide +kernel
theorem dX8_meanLetters_6 : decode cX8_meanLetters 6 = .ok (.iload_n 3, 1) := by decide +kernel
theorem dX8_meanLetters_7 : decode cX8_meanLetters 7 = .ok (.aload_n 0, 1) := by decide +kernel
theorem dX8_meanLetters_8 : decode cX8_meanLetters 8 = .ok (.getfield 16, 3) := by decide +kernel
theorem dX8_meanLetters_11 : decode cX8_meanLetters 11 = .ok (.invokevirtual 77, 3) := by decide +kernel
theorem dX8_meanLetters_14 : decode cX8_meanLetters 14 = .ok (.if_icmp .ge 42, 3) := by decide +kernel
theorem dX8_meanLetters_17 : decode cX8_meanLetters 17 = .ok (.aload_n 0, 1) := by decide +kernel
theorem dX8_meanLetters_18 : decode cX8_meanLetters 18 = .ok (.getfield 16, 3) := by decide +kernel
theorem dX8_meanLetters_21 : decode cX8_meanLetters 21 = .ok (.iload_n 3, 1) := by decide +kernel
theorem dX8_meanLetters_22 : decode cX8_meanLetters 22 = .ok (.invokevirtual 153, 3) := by decide +kernel
theorem dX8_meanLetters_25 : decode cX8_meanLetters 25 = .ok (.checkcast 110, 3) := by decide +kernel
theorem dX8_meanLetters_28 : decode cX8_meanLetters 28 = .ok (.astore 4, 2) := by decide +kernel
theorem dX8_meanLetters_30 : decode cX8_meanLetters 30 = .ok (.aload_n 0, 1) := by decide +kernel
theorem dX8_meanLetters_31 : decode cX8_meanLetters 31 = .ok (.aload 4, 2) := by decide +kernel
theorem dX8_meanLetters_33 : decode cX8_meanLetters 33 = .ok (.invokevirtual 157, 3) := by decide +kernel
theorem dX8_meanLetters_36 : decode cX8_meanLetters 36 = .ok (.ifCond .eq 14, 3) := by decide +kernel
theorem dX8_meanLetters_39 : decode cX8_meanLetters 39 = .ok (.iload_n 1, 1) := by decide +kernel
theorem dX8_meanLetters_40 : decode cX8_meanLetters 40 = .ok (.aload 4, 2) := by decide +kernel
theorem dX8_meanLetters_42 : decode cX8_meanLetters 42 = .ok (.getfield 139, 3) := by decide +kernel
theorem dX8_meanLetters_45 : decode cX8_meanLetters 45 = .ok (.iadd, 1) := by decide +kernel
theorem dX8_meanLetters_46 : decode cX8_meanLetters 46 = .ok (.istore_n 1, 1) := by decide +kernel
theorem dX8_meanLetters_47 : decode cX8_meanLetters 47 = .ok (.iinc 2 1, 3) := by decide +kernel
theorem dX8_meanLetters_50 : decode cX8_meanLetters 50 = .ok (.iinc 3 1, 3) := by decide +kernel
theorem dX8_meanLetters_53 : decode cX8_meanLetters 53 = .ok (.goto (-47), 3) := by decide +kernel
theorem dX8_meanLetters_56 : decode cX8_meanLetters 56 = .ok (.iload_n 2, 1) := by decide +kernel
theorem dX8_meanLetters_57 : decode cX8_meanLetters 57 = .ok (.ifCond .ne 14, 3) := by decide +kernel
theorem dX8_meanLetters_60 : decode cX8_meanLetters 60 = .ok (.new 326, 3) := by decide +kernel
theorem dX8_meanLetters_63 : decode cX8_meanLetters 63 = .ok (.dup, 1) := by decide +kernel
theorem dX8_meanLetters_64 : decode cX8_meanLetters 64 = .ok (.ldc_w 331, 3) := by decide +kernel
theorem dX8_meanLetters_67 : decode cX8_meanLetters 67 = .ok (.invokespecial 330, 3) := by decide +kernel
theorem dX8_meanLetters_70 : decode cX8_meanLetters 70 = .ok (.athrow, 1) := by decide +kernel
theorem dX8_meanLetters_71 : decode cX8_meanLetters 71 = .ok (.iload_n 1, 1) := by decide +kernel
theorem dX8_meanLetters_72 : decode cX8_meanLetters 72 = .ok (.i2d, 1) := by decide +kernel
theorem dX8_meanLetters_73 : decode cX8_meanLetters 73 = .ok (.iload_n 2, 1) := by decide +kernel
theorem dX8_meanLetters_74 : decode cX8_meanLetters 74 = .ok (.i2d, 1) := by decide +kernel
theorem dX8_meanLetters_75 : decode cX8_meanLetters 75 = .ok (.ddiv, 1) := by decide +kernel
theorem dX8_meanLetters_76 : decode cX8_meanLetters 76 = .ok (.dreturn, 1) := by decide +kernel
theorem dX8_isFrom_0 : decode cX8_isFrom 0 = .ok (.iload_n 2, 1) := by decide +kernel
theorem dX8_isFrom_1 : decode cX8_isFrom 1 = .ok (.iload_n 0, 1) := by decide +kernel
theorem dX8_isFrom_2 : decode cX8_isFrom 2 = .ok (.if_icmp .lt 12, 3) := by decide +kernel
theorem dX8_isFrom_5 : decode cX8_isFrom 5 = .ok (.iload_n 2, 1) := by decide +kernel
theorem dX8_isFrom_6 : decode cX8_isFrom 6 = .ok (.iload_n 1, 1) := by decide +kernel
theorem dX8_isFrom_7 : decode cX8_isFrom 7 = .ok (.if_icmp .gt 7, 3) := by decide +kernel
theorem dX8_isFrom_10 : decode cX8_isFrom 10 = .ok (.iconst 1, 1) := by decide +kernel
theorem dX8_isFrom_11 : decode cX8_isFrom 11 = .ok (.goto 4, 3) := by decide +kernel
theorem dX8_isFrom_14 : decode cX8_isFrom 14 = .ok (.iconst 0, 1) := by decide +kernel
theorem dX8_isFrom_15 : decode cX8_isFrom 15 = .ok (.ireturn, 1) := by decide +kernel
theorem dX8_noneIfNoWay_0 : decode cX8_noneIfNoWay 0 = .ok (.iload_n 0, 1) := by decide +kernel
theorem dX8_noneIfNoWay_1 : decode cX8_noneIfNoWay 1 = .ok (.ldc_w 333, 3) := by decide +kernel
theorem dX8_noneIfNoWay_4 : decode cX8_noneIfNoWay 4 = .ok (.if_icmp .ge 7, 3) := by decide +kernel
theorem dX8_noneIfNoWay_7 : decode cX8_noneIfNoWay 7 = .ok (.iload_n 0, 1) := by decide +kernel
theorem dX8_noneIfNoWay_8 : decode cX8_noneIfNoWay 8 = .ok (.goto 4, 3) := by decide +kernel
theorem dX8_noneIfNoWay_11 : decode cX8_noneIfNoWay 11 = .ok (.iconst (-1), 1) := by decide +kernel
theorem dX8_noneIfNoWay_12 : decode cX8_noneIfNoWay 12 = .ok (.ireturn, 1) := by decide +kernel
theorem dX8_checkPlace_0 : decode cX8_checkPlace 0 = .ok (.iload_n 1, 1) := by decide +kernel
theorem dX8_checkPlace_1 : decode cX8_checkPlace 1 = .ok (.ifCond .lt 11, 3) := by decide +kernel
theorem dX8_checkPlace_4 : decode cX8_checkPlace 4 = .ok (.iload_n 1, 1) := by decide +kernel
theorem dX8_checkPlace_5 : decode cX8_checkPlace 5 = .ok (.aload_n 0, 1) := by decide +kernel
theorem dX8_checkPlace_6 : decode cX8_checkPlace 6 = .ok (.getfield 50, 3) := by decide +kernel
theorem dX8_checkPlace_9 : decode cX8_checkPlace 9 = .ok (.if_icmp .lt 13, 3) := by decide +kernel
theorem dX8_checkPlace_12 : decode cX8_checkPlace 12 = .ok (.new 288, 3) := by decide +kernel
theorem dX8_checkPlace_15 : decode cX8_checkPlace 15 = .ok (.dup, 1) := by decide +kernel
theorem dX8_checkPlace_16 : decode cX8_checkPlace 16 = .ok (.ldc 248, 2) := by decide +kernel
theorem dX8_checkPlace_18 : decode cX8_checkPlace 18 = .ok (.invokespecial 292, 3) := by decide +kernel
theorem dX8_checkPlace_21 : decode cX8_checkPlace 21 = .ok (.athrow, 1) := by decide +kernel
theorem dX8_checkPlace_22 : decode cX8_checkPlace 22 = .ok (.return_, 1) := by decide +kernel
theorem dX8_findStreet_0 : decode cX8_findStreet 0 = .ok (.iload_n 1, 1) := by decide +kernel
theorem dX8_findStreet_1 : decode cX8_findStreet 1 = .ok (.ifCond .lt 14, 3) := by decide +kernel
theorem dX8_findStreet_4 : decode cX8_findStreet 4 = .ok (.iload_n 1, 1) := by decide +kernel
theorem dX8_findStreet_5 : decode cX8_findStreet 5 = .ok (.aload_n 0, 1) := by decide +kernel
theorem dX8_findStreet_6 : decode cX8_findStreet 6 = .ok (.getfield 10, 3) := by decide +kernel
theorem dX8_findStreet_9 : decode cX8_findStreet 9 = .ok (.invokevirtual 77, 3) := by decide +kernel
theorem dX8_findStreet_12 : decode cX8_findStreet 12 = .ok (.if_icmp .lt 14, 3) := by decide +kernel
theorem dX8_findStreet_15 : decode cX8_findStreet 15 = .ok (.new 288, 3) := by decide +kernel
theorem dX8_findStreet_18 : decode cX8_findStreet 18 = .ok (.dup, 1) := by decide +kernel
theorem dX8_findStreet_19 : decode cX8_findStreet 19 = .ok (.ldc_w 334, 3) := by decide +kernel
theorem dX8_findStreet_22 : decode cX8_findStreet 22 = .ok (.invokespecial 292, 3) := by decide +kernel
theorem dX8_findStreet_25 : decode cX8_findStreet 25 = .ok (.athrow, 1) := by decide +kernel
theorem dX8_findStreet_26 : decode cX8_findStreet 26 = .ok (.aload_n 0, 1) := by decide +kernel
theorem dX8_findStreet_27 : decode cX8_findStreet 27 = .ok (.getfield 10, 3) := by decide +kernel
theorem dX8_findStreet_30 : decode cX8_findStreet 30 = .ok (.iload_n 1, 1) := by decide +kernel
theorem dX8_findStreet_31 : decode cX8_findStreet 31 = .ok (.invokevirtual 153, 3) := by decide +kernel
theorem dX8_findStreet_34 : decode cX8_findStreet 34 = .ok (.checkcast 83, 3) := by decide +kernel
theorem dX8_findStreet_37 : decode cX8_findStreet 37 = .ok (.areturn, 1) := by decide +kernel
theorem dX8_findHouse_0 : decode cX8_findHouse 0 = .ok (.iload_n 1, 1) := by decide +kernel
theorem dX8_findHouse_1 : decode cX8_findHouse 1 = .ok (.ifCond .lt 14, 3) := by decide +kernel
theorem dX8_findHouse_4 : decode cX8_findHouse 4 = .ok (.iload_n 1, 1) := by decide +kernel
theorem dX8_findHouse_5 : decode cX8_findHouse 5 = .ok (.aload_n 0, 1) := by decide +kernel
theorem dX8_findHouse_6 : decode cX8_findHouse 6 = .ok (.getfield 16, 3) := by decide +kernel
theorem dX8_findHouse_9 : decode cX8_findHouse 9 = .ok (.invokevirtual 77, 3) := by decide +kernel
theorem dX8_findHouse_12 : decode cX8_findHouse 12 = .ok (.if_icmp .lt 14, 3) := by decide +kernel
theorem dX8_findHouse_15 : decode cX8_findHouse 15 = .ok (.new 288, 3) := by decide +kernel
theorem dX8_findHouse_18 : decode cX8_findHouse 18 = .ok (.dup, 1) := by decide +kernel
theorem dX8_findHouse_19 : decode cX8_findHouse 19 = .ok (.ldc_w 336, 3) := by decide +kernel
theorem dX8_findHouse_22 : decode cX8_findHouse 22 = .ok (.invokespecial 292, 3) := by decide +kernel
theorem dX8_findHouse_25 : decode cX8_findHouse 25 = .ok (.athrow, 1) := by decide +kernel
theorem dX8_findHouse_26 : decode cX8_findHouse 26 = .ok (.aload_n 0, 1) := by decide +kernel
theorem dX8_findHouse_27 : decode cX8_findHouse 27 = .ok (.getfield 16, 3) := by decide +kernel
theorem dX8_findHouse_30 : decode cX8_findHouse 30 = .ok (.iload_n 1, 1) := by decide +kernel
theorem dX8_findHouse_31 : decode cX8_findHouse 31 = .ok (.invokevirtual 153, 3) := by decide +kernel
theorem dX8_findHouse_34 : decode cX8_findHouse 34 = .ok (.checkcast 110, 3) := by decide +kernel
theorem dX8_findHouse_37 : decode cX8_findHouse 37 = .ok (.areturn, 1) := by decide +kernel
theorem dX8_findRound_0 : decode cX8_findRound 0 = .ok (.iload_n 1, 1) := by decide +kernel
theorem dX8_findRound_1 : decode cX8_findRound 1 = .ok (.ifCond .lt 14, 3) := by decide +kernel
theorem dX8_findRound_4 : decode cX8_findRound 4 = .ok (.iload_n 1, 1) := by decide +kernel
theorem dX8_findRound_5 : decode cX8_findRound 5 = .ok (.aload_n 0, 1) := by decide +kernel
theorem dX8_findRound_6 : decode cX8_findRound 6 = .ok (.getfield 19, 3) := by decide +kernel
theorem dX8_findRound_9 : decode cX8_findRound 9 = .ok (.invokevirtual 77, 3) := by decide +kernel
theorem dX8_findRound_12 : decode cX8_findRound 12 = .ok (.if_icmp .lt 14, 3) := by decide +kernel
theorem dX8_findRound_15 : decode cX8_findRound 15 = .ok (.new 288, 3) := by decide +kernel
theorem dX8_findRound_18 : decode cX8_findRound 18 = .ok (.dup, 1) := by decide +kernel
theorem dX8_findRound_19 : decode cX8_findRound 19 = .ok (.ldc_w 338, 3) := by decide +kernel
theorem dX8_findRound_22 : decode cX8_findRound 22 = .ok (.invokespecial 292, 3) := by decide +kernel
theorem dX8_findRound_25 : decode cX8_findRound 25 = .ok (.athrow, 1) := by decide +kernel
theorem dX8_findRound_26 : decode cX8_findRound 26 = .ok (.aload_n 0, 1) := by decide +kernel
theorem dX8_findRound_27 : decode cX8_findRound 27 = .ok (.getfield 19, 3) := by decide +kernel
theorem dX8_findRound_30 : decode cX8_findRound 30 = .ok (.iload_n 1, 1) := by decide +kernel
theorem dX8_findRound_31 : decode cX8_findRound 31 = .ok (.invokevirtual 153, 3) := by decide +kernel
theorem dX8_findRound_34 : decode cX8_findRound 34 = .ok (.checkcast 120, 3) := by decide +kernel
theorem dX8_findRound_37 : decode cX8_findRound 37 = .ok (.areturn, 1) := by decide +kernel
theorem dX8_findParcel_0 : decode cX8_findParcel 0 = .ok (.iload_n 1, 1) := by decide +kernel
theorem dX8_findParcel_1 : decode cX8_findParcel 1 = .ok (.ifCond .lt 14, 3) := by decide +kernel
theorem dX8_findParcel_4 : decode cX8_findParcel 4 = .ok (.iload_n 1, 1) := by decide +kernel
theorem dX8_findParcel_5 : decode cX8_findParcel 5 = .ok (.aload_n 0, 1) := by decide +kernel
theorem dX8_findParcel_6 : decode cX8_findParcel 6 = .ok (.getfield 22, 3) := by decide +kernel
theorem dX8_findParcel_9 : decode cX8_findParcel 9 = .ok (.invokevirtual 77, 3) := by decide +kernel
theorem dX8_findParcel_12 : decode cX8_findParcel 12 = .ok (.if_icmp .lt 14, 3) := by decide +kernel
theorem dX8_findParcel_15 : decode cX8_findParcel 15 = .ok (.new 288, 3) := by decide +kernel
theorem dX8_findParcel_18 : decode cX8_findParcel 18 = .ok (.dup, 1) := by decide +kernel
theorem dX8_findParcel_19 : decode cX8_findParcel 19 = .ok (.ldc_w 340, 3) := by decide +kernel
theorem dX8_findParcel_22 : decode cX8_findParcel 22 = .ok (.invokespecial 292, 3) := by decide +kernel
theorem dX8_findParcel_25 : decode cX8_findParcel 25 = .ok (.athrow, 1) := by decide +kernel
theorem dX8_findParcel_26 : decode cX8_findParcel 26 = .ok (.aload_n 0, 1) := by decide +kernel
theorem dX8_findParcel_27 : decode cX8_findParcel 27 = .ok (.getfield 22, 3) := by decide +kernel
theorem dX8_findParcel_30 : decode cX8_findParcel 30 = .ok (.iload_n 1, 1) := by decide +kernel
theorem dX8_findParcel_31 : decode cX8_findParcel 31 = .ok (.invokevirtual 153, 3) := by decide +kernel
theorem dX8_findParcel_34 : decode cX8_findParcel 34 = .ok (.checkcast 148, 3) := by decide +kernel
theorem dX8_findParcel_37 : decode cX8_findParcel 37 = .ok (.areturn, 1) := by decide +kernel
theorem dX8_rankOf_0 : decode cX8_rankOf 0 = .ok (.iconst 0, 1) := by decide +kernel
theorem dX8_rankOf_1 : decode cX8_rankOf 1 = .ok (.istore_n 2, 1) := by decide +kernel
theorem dX8_rankOf_2 : decode cX8_rankOf 2 = .ok (.iconst 0, 1) := by decide +kernel
theorem dX8_rankOf_3 : decode cX8_rankOf 3 = .ok (.istore_n 3, 1) := by decide +kernel
theorem dX8_rankOf_4 : decode cX8_rankOf 4 = .ok (.iload_n 3, 1) := by decide +kernel
theorem dX8_rankOf_5 : decode cX8_rankOf 5 = .ok (.aload_n 0, 1) := by decide +kernel
theorem dX8_rankOf_6 : decode cX8_rankOf 6 = .ok (.getfield 16, 3) := by decide +kernel
theorem dX8_rankOf_9 : decode cX8_rankOf 9 = .ok (.invokevirtual 77, 3) := by decide +kernel
theorem dX8_rankOf_12 : decode cX8_rankOf 12 = .ok (.if_icmp .ge 97, 3) := by decide +kernel
theorem dX8_rankOf_15 : decode cX8_rankOf 15 = .ok (.aload_n 0, 1) := by decide +kernel
theorem dX8_rankOf_16 : decode cX8_rankOf 16 = .ok (.getfield 16, 3) := by decide +kernel
theorem dX8_rankOf_19 : decode cX8_rankOf 19 = .ok (.iload_n 3, 1) := by decide +kernel
theorem dX8_rankOf_20 : decode cX8_rankOf 20 = .ok (.invokevirtual 153, 3) := by decide +kernel
theorem dX8_rankOf_23 : decode cX8_rankOf 23 = .ok (.checkcast 110, 3) := by decide +kernel
theorem dX8_rankOf_26 : decode cX8_rankOf 26 = .ok (.astore 4, 2) := by decide +kernel
theorem dX8_rankOf_28 : decode cX8_rankOf 28 = .ok (.aload 4, 2) := by decide +kernel
theorem dX8_rankOf_30 : decode cX8_rankOf 30 = .ok (.getfield 342, 3) := by decide +kernel
theorem dX8_rankOf_33 : decode cX8_rankOf 33 = .ok (.aload_n 1, 1) := by decide +kernel
theorem dX8_rankOf_34 : decode cX8_rankOf 34 = .ok (.getfield 342, 3) := by decide +kernel
theorem dX8_rankOf_37 : decode cX8_rankOf 37 = .ok (.if_icmp .ne 19, 3) := by decide +kernel
theorem dX8_rankOf_40 : decode cX8_rankOf 40 = .ok (.aload 4, 2) := by decide +kernel
theorem dX8_rankOf_42 : decode cX8_rankOf 42 = .ok (.getfield 115, 3) := by decide +kernel
theorem dX8_rankOf_45 : decode cX8_rankOf 45 = .ok (.aload_n 1, 1) := by decide +kernel
theorem dX8_rankOf_46 : decode cX8_rankOf 46 = .ok (.getfield 115, 3) := by decide +kernel
theorem dX8_rankOf_49 : decode cX8_rankOf 49 = .ok (.if_icmp .ge 7, 3) := by decide +kernel
theorem dX8_rankOf_52 : decode cX8_rankOf 52 = .ok (.iconst 1, 1) := by decide +kernel
theorem dX8_rankOf_53 : decode cX8_rankOf 53 = .ok (.goto 4, 3) := by decide +kernel
theorem dX8_rankOf_56 : decode cX8_rankOf 56 = .ok (.iconst 0, 1) := by decide +kernel
theorem dX8_rankOf_57 : decode cX8_rankOf 57 = .ok (.istore 5, 2) := by decide +kernel
theorem dX8_rankOf_59 : decode cX8_rankOf 59 = .ok (.aload 4, 2) := by decide +kernel
theorem dX8_rankOf_61 : decode cX8_rankOf 61 = .ok (.getfield 169, 3) := by decide +kernel
theorem dX8_rankOf_64 : decode cX8_rankOf 64 = .ok (.aload_n 1, 1) := by decide +kernel
theorem dX8_rankOf_65 : decode cX8_rankOf 65 = .ok (.getfield 169, 3) := by decide +kernel
theorem dX8_rankOf_68 : decode cX8_rankOf 68 = .ok (.if_acmp .ne 35, 3) := by decide +kernel
theorem dX8_rankOf_71 : decode cX8_rankOf 71 = .ok (.aload 4, 2) := by decide +kernel
theorem dX8_rankOf_73 : decode cX8_rankOf 73 = .ok (.getfield 173, 3) := by decide +kernel
theorem dX8_rankOf_76 : decode cX8_rankOf 76 = .ok (.aload_n 1, 1) := by decide +kernel
theorem dX8_rankOf_77 : decode cX8_rankOf 77 = .ok (.getfield 173, 3) := by decide +kernel
theorem dX8_rankOf_80 : decode cX8_rankOf 80 = .ok (.if_icmp .ne 23, 3) := by decide +kernel
theorem dX8_rankOf_83 : decode cX8_rankOf 83 = .ok (.aload 4, 2) := by decide +kernel
theorem dX8_rankOf_85 : decode cX8_rankOf 85 = .ok (.getfield 342, 3) := by decide +kernel
theorem dX8_rankOf_88 : decode cX8_rankOf 88 = .ok (.aload_n 1, 1) := by decide +kernel
theorem dX8_rankOf_89 : decode cX8_rankOf 89 = .ok (.getfield 342, 3) := by decide +kernel
theorem dX8_rankOf_92 : decode cX8_rankOf 92 = .ok (.if_icmp .lt 8, 3) := by decide +kernel
theorem dX8_rankOf_95 : decode cX8_rankOf 95 = .ok (.iload 5, 2) := by decide +kernel
theorem dX8_rankOf_97 : decode cX8_rankOf 97 = .ok (.ifCond .eq 6, 3) := by decide +kernel
theorem dX8_rankOf_100 : decode cX8_rankOf 100 = .ok (.iinc 2 1, 3) := by decide +kernel
theorem dX8_rankOf_103 : decode cX8_rankOf 103 = .ok (.iinc 3 1, 3) := by decide +kernel
theorem dX8_rankOf_106 : decode cX8_rankOf 106 = .ok (.goto (-102), 3) := by decide +kernel
theorem dX8_rankOf_109 : decode cX8_rankOf 109 = .ok (.iload_n 2, 1) := by decide +kernel
theorem dX8_rankOf_110 : decode cX8_rankOf 110 = .ok (.ireturn, 1) := by decide +kernel
theorem dX8_isLight_0 : decode cX8_isLight 0 = .ok (.aload_n 1, 1) := by decide +kernel
theorem dX8_isLight_1 : decode cX8_isLight 1 = .ok (.getfield 297, 3) := by decide +kernel
theorem dX8_isLight_4 : decode cX8_isLight 4 = .ok (.ifCond .ne 18, 3) := by decide +kernel
theorem dX8_isLight_7 : decode cX8_isLight 7 = .ok (.aload_n 1, 1) := by decide +kernel
theorem dX8_isLight_8 : decode cX8_isLight 8 = .ok (.getfield 301, 3) := by decide +kernel
theorem dX8_isLight_11 : decode cX8_isLight 11 = .ok (.aload_n 0, 1) := by decide +kernel
theorem dX8_isLight_12 : decode cX8_isLight 12 = .ok (.getfield 54, 3) := by decide +kernel
theorem dX8_isLight_15 : decode cX8_isLight 15 = .ok (.if_icmp .gt 7, 3) := by decide +kernel
theorem dX8_isLight_18 : decode cX8_isLight 18 = .ok (.iconst 1, 1) := by decide +kernel
theorem dX8_isLight_19 : decode cX8_isLight 19 = .ok (.goto 4, 3) := by decide +kernel
theorem dX8_isLight_22 : decode cX8_isLight 22 = .ok (.iconst 0, 1) := by decide +kernel
theorem dX8_isLight_23 : decode cX8_isLight 23 = .ok (.ireturn, 1) := by decide +kernel
theorem dX8_hasPost_0 : decode cX8_hasPost 0 = .ok (.aload_n 1, 1) := by decide +kernel
theorem dX8_hasPost_1 : decode cX8_hasPost 1 = .ok (.getfield 139, 3) := by decide +kernel
theorem dX8_hasPost_4 : decode cX8_hasPost 4 = .ok (.ifCond .le 5, 3) := by decide +kernel
theorem dX8_hasPost_7 : decode cX8_hasPost 7 = .ok (.iconst 1, 1) := by decide +kernel
theorem dX8_hasPost_8 : decode cX8_hasPost 8 = .ok (.ireturn, 1) := by decide +kernel
theorem dX8_hasPost_9 : decode cX8_hasPost 9 = .ok (.iconst 0, 1) := by decide +kernel
theorem dX8_hasPost_10 : decode cX8_hasPost 10 = .ok (.istore_n 2, 1) := by decide +kernel
theorem dX8_hasPost_11 : decode cX8_hasPost 11 = .ok (.iload_n 2, 1) := by decide +kernel
theorem dX8_hasPost_12 : decode cX8_hasPost 12 = .ok (.aload_n 0, 1) := by decide +kernel
theorem dX8_hasPost_13 : decode cX8_hasPost 13 = .ok (.getfield 22, 3) := by decide +kernel
theorem dX8_hasPost_16 : decode cX8_hasPost 16 = .ok (.invokevirtual 77, 3) := by decide +kernel
theorem dX8_hasPost_19 : decode cX8_hasPost 19 = .ok (.if_icmp .ge 39, 3) := by decide +kernel
theorem dX8_hasPost_22 : decode cX8_hasPost 22 = .ok (.aload_n 0, 1) := by decide +kernel
theorem dX8_hasPost_23 : decode cX8_hasPost 23 = .ok (.getfield 22, 3) := by decide +kernel
theorem dX8_hasPost_26 : decode cX8_hasPost 26 = .ok (.iload_n 2, 1) := by decide +kernel
theorem dX8_hasPost_27 : decode cX8_hasPost 27 = .ok (.invokevirtual 153, 3) := by decide +kernel
theorem dX8_hasPost_30 : decode cX8_hasPost 30 = .ok (.checkcast 148, 3) := by decide +kernel
theorem dX8_hasPost_33 : decode cX8_hasPost 33 = .ok (.astore_n 3, 1) := by decide +kernel
theorem dX8_hasPost_34 : decode cX8_hasPost 34 = .ok (.aload_n 3, 1) := by decide +kernel
theorem dX8_hasPost_35 : decode cX8_hasPost 35 = .ok (.getfield 345, 3) := by decide +kernel
theorem dX8_hasPost_38 : decode cX8_hasPost 38 = .ok (.aload_n 1, 1) := by decide +kernel
theorem dX8_hasPost_39 : decode cX8_hasPost 39 = .ok (.if_acmp .ne 13, 3) := by decide +kernel
theorem dX8_hasPost_42 : decode cX8_hasPost 42 = .ok (.aload_n 0, 1) := by decide +kernel
theorem dX8_hasPost_43 : decode cX8_hasPost 43 = .ok (.aload_n 3, 1) := by decide +kernel
theorem dX8_hasPost_44 : decode cX8_hasPost 44 = .ok (.invokevirtual 349, 3) := by decide +kernel
theorem dX8_hasPost_47 : decode cX8_hasPost 47 = .ok (.ifCond .eq 5, 3) := by decide +kernel
theorem dX8_hasPost_50 : decode cX8_hasPost 50 = .ok (.iconst 1, 1) := by decide +kernel
theorem dX8_hasPost_51 : decode cX8_hasPost 51 = .ok (.ireturn, 1) := by decide +kernel
theorem dX8_hasPost_52 : decode cX8_hasPost 52 = .ok (.iinc 2 1, 3) := by decide +kernel
theorem dX8_hasPost_55 : decode cX8_hasPost 55 = .ok (.goto (-44), 3) := by decide +kernel
theorem dX8_hasPost_58 : decode cX8_hasPost 58 = .ok (.iconst 0, 1) := by decide +kernel
theorem dX8_hasPost_59 : decode cX8_hasPost 59 = .ok (.ireturn, 1) := by decide +kernel
theorem dX8_groupOf_0 : decode cX8_groupOf 0 = .ok (.iconst 1, 1) := by decide +kernel
theorem dX8_groupOf_1 : decode cX8_groupOf 1 = .ok (.iload_n 0, 1) := by decide +kernel
theorem dX8_groupOf_2 : decode cX8_groupOf 2 = .ok (.ishl, 1) := by decide +kernel
theorem dX8_groupOf_3 : decode cX8_groupOf 3 = .ok (.ireturn, 1) := by decide +kernel
theorem dX8_isIn_0 : decode cX8_isIn 0 = .ok (.aload_n 0, 1) := by decide +kernel
theorem dX8_isIn_1 : decode cX8_isIn 1 = .ok (.getfield 128, 3) := by decide +kernel
theorem dX8_isIn_4 : decode cX8_isIn 4 = .ok (.iconst (-1), 1) := by decide +kernel
theorem dX8_isIn_5 : decode cX8_isIn 5 = .ok (.if_icmp .eq 19, 3) := by decide +kernel
theorem dX8_isIn_8 : decode cX8_isIn 8 = .ok (.iload_n 1, 1) := by decide +kernel
theorem dX8_isIn_9 : decode cX8_isIn 9 = .ok (.aload_n 0, 1) := by decide +kernel
theorem dX8_isIn_10 : decode cX8_isIn 10 = .ok (.getfield 128, 3) := by decide +kernel
theorem dX8_isIn_13 : decode cX8_isIn 13 = .ok (.invokestatic 185, 3) := by decide +kernel
theorem dX8_isIn_16 : decode cX8_isIn 16 = .ok (.iand, 1) := by decide +kernel
theorem dX8_isIn_17 : decode cX8_isIn 17 = .ok (.ifCond .eq 7, 3) := by decide +kernel
theorem dX8_isIn_20 : decode cX8_isIn 20 = .ok (.iconst 1, 1) := by decide +kernel
theorem dX8_isIn_21 : decode cX8_isIn 21 = .ok (.goto 4, 3) := by decide +kernel
theorem dX8_isIn_24 : decode cX8_isIn 24 = .ok (.iconst 0, 1) := by decide +kernel
theorem dX8_isIn_25 : decode cX8_isIn 25 = .ok (.ireturn, 1) := by decide +kernel
theorem dX8_dueHouses_0 : decode cX8_dueHouses 0 = .ok (.iconst 0, 1) := by decide +kernel
theorem dX8_dueHouses_1 : decode cX8_dueHouses 1 = .ok (.istore_n 2, 1) := by decide +kernel
theorem dX8_dueHouses_2 : decode cX8_dueHouses 2 = .ok (.iconst 0, 1) := by decide +kernel
theorem dX8_dueHouses_3 : decode cX8_dueHouses 3 = .ok (.istore_n 3, 1) := by decide +kernel
theorem dX8_dueHouses_4 : decode cX8_dueHouses 4 = .ok (.iload_n 3, 1) := by decide +kernel
theorem dX8_dueHouses_5 : decode cX8_dueHouses 5 = .ok (.aload_n 0, 1) := by decide +kernel
theorem dX8_dueHouses_6 : decode cX8_dueHouses 6 = .ok (.getfield 16, 3) := by decide +kernel
theorem dX8_dueHouses_9 : decode cX8_dueHouses 9 = .ok (.invokevirtual 77, 3) := by decide +kernel
theorem dX8_dueHouses_12 : decode cX8_dueHouses 12 = .ok (.if_icmp .ge 46, 3) := by decide +kernel
theorem dX8_dueHouses_15 : decode cX8_dueHouses 15 = .ok (.aload_n 0, 1) := by decide +kernel
theorem dX8_dueHouses_16 : decode cX8_dueHouses 16 = .ok (.getfield 16, 3) := by decide +kernel
theorem dX8_dueHouses_19 : decode cX8_dueHouses 19 = .ok (.iload_n 3, 1) := by decide +kernel
theorem dX8_dueHouses_20 : decode cX8_dueHouses 20 = .ok (.invokevirtual 153, 3) := by decide +kernel
theorem dX8_dueHouses_23 : decode cX8_dueHouses 23 = .ok (.checkcast 110, 3) := by decide +kernel
theorem dX8_dueHouses_26 : decode cX8_dueHouses 26 = .ok (.astore 4, 2) := by decide +kernel
theorem dX8_dueHouses_28 : decode cX8_dueHouses 28 = .ok (.aload 4, 2) := by decide +kernel
theorem dX8_dueHouses_30 : decode cX8_dueHouses 30 = .ok (.getfield 169, 3) := by decide +kernel
theorem dX8_dueHouses_33 : decode cX8_dueHouses 33 = .ok (.iload_n 1, 1) := by decide +kernel
theorem dX8_dueHouses_34 : decode cX8_dueHouses 34 = .ok (.invokestatic 353, 3) := by decide +kernel
theorem dX8_dueHouses_37 : decode cX8_dueHouses 37 = .ok (.ifCond .eq 15, 3) := by decide +kernel
theorem dX8_dueHouses_40 : decode cX8_dueHouses 40 = .ok (.aload_n 0, 1) := by decide +kernel
theorem dX8_dueHouses_41 : decode cX8_dueHouses 41 = .ok (.aload 4, 2) := by decide +kernel
theorem dX8_dueHouses_43 : decode cX8_dueHouses 43 = .ok (.invokevirtual 157, 3) := by decide +kernel
theorem dX8_dueHouses_46 : decode cX8_dueHouses 46 = .ok (.ifCond .eq 6, 3) := by decide +kernel
theorem dX8_dueHouses_49 : decode cX8_dueHouses 49 = .ok (.iinc 2 1, 3) := by decide +kernel
theorem dX8_dueHouses_52 : decode cX8_dueHouses 52 = .ok (.iinc 3 1, 3) := by decide +kernel
theorem dX8_dueHouses_55 : decode cX8_dueHouses 55 = .ok (.goto (-51), 3) := by decide +kernel
theorem dX8_dueHouses_58 : decode cX8_dueHouses 58 = .ok (.iload_n 2, 1) := by decide +kernel
theorem dX8_dueHouses_59 : decode cX8_dueHouses 59 = .ok (.ireturn, 1) := by decide +kernel
theorem dX8_lightParcels_0 : decode cX8_lightParcels 0 = .ok (.iconst 0, 1) := by decide +kernel
theorem dX8_lightParcels_1 : decode cX8_lightParcels 1 = .ok (.istore_n 2, 1) := by decide +kernel
theorem dX8_lightParcels_2 : decode cX8_lightParcels 2 = .ok (.iconst 0, 1) := by decide +kernel
theorem dX8_lightParcels_3 : decode cX8_lightParcels 3 = .ok (.istore_n 3, 1) := by decide +kernel
theorem dX8_lightParcels_4 : decode cX8_lightParcels 4 = .ok (.iload_n 3, 1) := by decide +kernel
theorem dX8_lightParcels_5 : decode cX8_lightParcels 5 = .ok (.aload_n 0, 1) := by decide +kernel
theorem dX8_lightParcels_6 : decode cX8_lightParcels 6 = .ok (.getfield 22, 3) := by decide +kernel
theorem dX8_lightParcels_9 : decode cX8_lightParcels 9 = .ok (.invokevirtual 77, 3) := by decide +kernel
theorem dX8_lightParcels_12 : decode cX8_lightParcels 12 = .ok (.if_icmp .ge 49, 3) := by decide +kernel
theorem dX8_lightParcels_15 : decode cX8_lightParcels 15 = .ok (.aload_n 0, 1) := by decide +kernel
theorem dX8_lightParcels_16 : decode cX8_lightParcels 16 = .ok (.getfield 22, 3) := by decide +kernel
theorem dX8_lightParcels_19 : decode cX8_lightParcels 19 = .ok (.iload_n 3, 1) := by decide +kernel
theorem dX8_lightParcels_20 : decode cX8_lightParcels 20 = .ok (.invokevirtual 153, 3) := by decide +kernel
theorem dX8_lightParcels_23 : decode cX8_lightParcels 23 = .ok (.checkcast 148, 3) := by decide +kernel
theorem dX8_lightParcels_26 : decode cX8_lightParcels 26 = .ok (.astore 4, 2) := by decide +kernel
theorem dX8_lightParcels_28 : decode cX8_lightParcels 28 = .ok (.aload 4, 2) := by decide +kernel
theorem dX8_lightParcels_30 : decode cX8_lightParcels 30 = .ok (.getfield 345, 3) := by decide +kernel
theorem dX8_lightParcels_33 : decode cX8_lightParcels 33 = .ok (.getfield 169, 3) := by decide +kernel
theorem dX8_lightParcels_36 : decode cX8_lightParcels 36 = .ok (.iload_n 1, 1) := by decide +kernel
theorem dX8_lightParcels_37 : decode cX8_lightParcels 37 = .ok (.invokestatic 353, 3) := by decide +kernel
theorem dX8_lightParcels_40 : decode cX8_lightParcels 40 = .ok (.ifCond .eq 15, 3) := by decide +kernel
theorem dX8_lightParcels_43 : decode cX8_lightParcels 43 = .ok (.aload_n 0, 1) := by decide +kernel
theorem dX8_lightParcels_44 : decode cX8_lightParcels 44 = .ok (.aload 4, 2) := by decide +kernel
theorem dX8_lightParcels_46 : decode cX8_lightParcels 46 = .ok (.invokevirtual 349, 3) := by decide +kernel
theorem dX8_lightParcels_49 : decode cX8_lightParcels 49 = .ok (.ifCond .eq 6, 3) := by decide +kernel
theorem dX8_lightParcels_52 : decode cX8_lightParcels 52 = .ok (.iinc 2 1, 3) := by decide +kernel
theorem dX8_lightParcels_55 : decode cX8_lightParcels 55 = .ok (.iinc 3 1, 3) := by decide +kernel
theorem dX8_lightParcels_58 : decode cX8_lightParcels 58 = .ok (.goto (-54), 3) := by decide +kernel
theorem dX8_lightParcels_61 : decode cX8_lightParcels 61 = .ok (.iload_n 2, 1) := by decide +kernel
theorem dX8_lightParcels_62 : decode cX8_lightParcels 62 = .ok (.ireturn, 1) := by decide +kernel
theorem dX8_stopTime_0 : decode cX8_stopTime 0 = .ok (.iconst 2, 1) := by decide +kernel
theorem dX8_stopTime_1 : decode cX8_stopTime 1 = .ok (.aload_n 0, 1) := by decide +kernel
theorem dX8_stopTime_2 : decode cX8_stopTime 2 = .ok (.iload_n 1, 1) := by decide +kernel
theorem dX8_stopTime_3 : decode cX8_stopTime 3 = .ok (.invokevirtual 189, 3) := by decide +kernel
theorem dX8_stopTime_6 : decode cX8_stopTime 6 = .ok (.imul, 1) := by decide +kernel
theorem dX8_stopTime_7 : decode cX8_stopTime 7 = .ok (.aload_n 0, 1) := by decide +kernel
theorem dX8_stopTime_8 : decode cX8_stopTime 8 = .ok (.iload_n 1, 1) := by decide +kernel
theorem dX8_stopTime_9 : decode cX8_stopTime 9 = .ok (.invokevirtual 357, 3) := by decide +kernel
theorem dX8_stopTime_12 : decode cX8_stopTime 12 = .ok (.iadd, 1) := by decide +kernel
theorem dX8_stopTime_13 : decode cX8_stopTime 13 = .ok (.ireturn, 1) := by decide +kernel
theorem dX8_isWithin_0 : decode cX8_isWithin 0 = .ok (.iload_n 2, 1) := by decide +kernel
theorem dX8_isWithin_1 : decode cX8_isWithin 1 = .ok (.iconst (-1), 1) := by decide +kernel
theorem dX8_isWithin_2 : decode cX8_isWithin 2 = .ok (.if_icmp .eq 18, 3) := by decide +kernel
theorem dX8_isWithin_5 : decode cX8_isWithin 5 = .ok (.iload_n 2, 1) := by decide +kernel
theorem dX8_isWithin_6 : decode cX8_isWithin 6 = .ok (.aload_n 0, 1) := by decide +kernel
theorem dX8_isWithin_7 : decode cX8_isWithin 7 = .ok (.iload_n 3, 1) := by decide +kernel
theorem dX8_isWithin_8 : decode cX8_isWithin 8 = .ok (.invokevirtual 250, 3) := by decide +kernel
theorem dX8_isWithin_11 : decode cX8_isWithin 11 = .ok (.iadd, 1) := by decide +kernel
theorem dX8_isWithin_12 : decode cX8_isWithin 12 = .ok (.iload_n 1, 1) := by decide +kernel
theorem dX8_isWithin_13 : decode cX8_isWithin 13 = .ok (.if_icmp .gt 7, 3) := by decide +kernel
theorem dX8_isWithin_16 : decode cX8_isWithin 16 = .ok (.iconst 1, 1) := by decide +kernel
theorem dX8_isWithin_17 : decode cX8_isWithin 17 = .ok (.goto 4, 3) := by decide +kernel
theorem dX8_isWithin_20 : decode cX8_isWithin 20 = .ok (.iconst 0, 1) := by decide +kernel
theorem dX8_isWithin_21 : decode cX8_isWithin 21 = .ok (.ireturn, 1) := by decide +kernel
theorem dX8_handOver_0 : decode cX8_handOver 0 = .ok (.iconst 0, 1) := by decide +kernel
theorem dX8_handOver_1 : decode cX8_handOver 1 = .ok (.istore_n 2, 1) := by decide +kernel
theorem dX8_handOver_2 : decode cX8_handOver 2 = .ok (.iload_n 2, 1) := by decide +kernel
theorem dX8_handOver_3 : decode cX8_handOver 3 = .ok (.aload_n 0, 1) := by decide +kernel
theorem dX8_handOver_4 : decode cX8_handOver 4 = .ok (.getfield 22, 3) := by decide +kernel
theorem dX8_handOver_7 : decode cX8_handOver 7 = .ok (.invokevirtual 77, 3) := by decide +kernel
theorem dX8_handOver_10 : decode cX8_handOver 10 = .ok (.if_icmp .ge 48, 3) := by decide +kernel
theorem dX8_handOver_13 : decode cX8_handOver 13 = .ok (.aload_n 0, 1) := by decide +kernel
theorem dX8_handOver_14 : decode cX8_handOver 14 = .ok (.getfield 22, 3) := by decide +kernel
theorem dX8_handOver_17 : decode cX8_handOver 17 = .ok (.iload_n 2, 1) := by decide +kernel
theorem dX8_handOver_18 : decode cX8_handOver 18 = .ok (.invokevirtual 153, 3) := by decide +kernel
theorem dX8_handOver_21 : decode cX8_handOver 21 = .ok (.checkcast 148, 3) := by decide +kernel
theorem dX8_handOver_24 : decode cX8_handOver 24 = .ok (.astore_n 3, 1) := by decide +kernel
theorem dX8_handOver_25 : decode cX8_handOver 25 = .ok (.aload_n 3, 1) := by decide +kernel
theorem dX8_handOver_26 : decode cX8_handOver 26 = .ok (.getfield 345, 3) := by decide +kernel
theorem dX8_handOver_29 : decode cX8_handOver 29 = .ok (.getfield 169, 3) := by decide +kernel
theorem dX8_handOver_32 : decode cX8_handOver 32 = .ok (.iload_n 1, 1) := by decide +kernel
theorem dX8_handOver_33 : decode cX8_handOver 33 = .ok (.invokestatic 353, 3) := by decide +kernel
theorem dX8_handOver_36 : decode cX8_handOver 36 = .ok (.ifCond .eq 16, 3) := by decide +kernel
theorem dX8_handOver_39 : decode cX8_handOver 39 = .ok (.aload_n 0, 1) := by decide +kernel
theorem dX8_handOver_40 : decode cX8_handOver 40 = .ok (.aload_n 3, 1) := by decide +kernel
theorem dX8_handOver_41 : decode cX8_handOver 41 = .ok (.invokevirtual 349, 3) := by decide +kernel
theorem dX8_handOver_44 : decode cX8_handOver 44 = .ok (.ifCond .eq 8, 3) := by decide +kernel
theorem dX8_handOver_47 : decode cX8_handOver 47 = .ok (.aload_n 3, 1) := by decide +kernel
theorem dX8_handOver_48 : decode cX8_handOver 48 = .ok (.iconst 1, 1) := by decide +kernel
theorem dX8_handOver_49 : decode cX8_handOver 49 = .ok (.putfield 297, 3) := by decide +kernel
theorem dX8_handOver_52 : decode cX8_handOver 52 = .ok (.iinc 2 1, 3) := by decide +kernel
theorem dX8_handOver_55 : decode cX8_handOver 55 = .ok (.goto (-53), 3) := by decide +kernel
theorem dX8_handOver_58 : decode cX8_handOver 58 = .ok (.iconst 0, 1) := by decide +kernel
theorem dX8_handOver_59 : decode cX8_handOver 59 = .ok (.istore_n 2, 1) := by decide +kernel
theorem dX8_handOver_60 : decode cX8_handOver 60 = .ok (.iload_n 2, 1) := by decide +kernel
theorem dX8_handOver_61 : decode cX8_handOver 61 = .ok (.aload_n 0, 1) := by decide +kernel
theorem dX8_handOver_62 : decode cX8_handOver 62 = .ok (.getfield 16, 3) := by decide +kernel
theorem dX8_handOver_65 : decode cX8_handOver 65 = .ok (.invokevirtual 77, 3) := by decide +kernel
theorem dX8_handOver_68 : decode cX8_handOver 68 = .ok (.if_icmp .ge 37, 3) := by decide +kernel
theorem dX8_handOver_71 : decode cX8_handOver 71 = .ok (.aload_n 0, 1) := by decide +kernel
theorem dX8_handOver_72 : decode cX8_handOver 72 = .ok (.getfield 16, 3) := by decide +kernel
theorem dX8_handOver_75 : decode cX8_handOver 75 = .ok (.iload_n 2, 1) := by decide +kernel
theorem dX8_handOver_76 : decode cX8_handOver 76 = .ok (.invokevirtual 153, 3) := by decide +kernel
theorem dX8_handOver_79 : decode cX8_handOver 79 = .ok (.checkcast 110, 3) := by decide +kernel
theorem dX8_handOver_82 : decode cX8_handOver 82 = .ok (.astore_n 3, 1) := by decide +kernel
theorem dX8_handOver_83 : decode cX8_handOver 83 = .ok (.aload_n 3, 1) := by decide +kernel
theorem dX8_handOver_84 : decode cX8_handOver 84 = .ok (.getfield 169, 3) := by decide +kernel
theorem dX8_handOver_87 : decode cX8_handOver 87 = .ok (.iload_n 1, 1) := by decide +kernel
theorem dX8_handOver_88 : decode cX8_handOver 88 = .ok (.invokestatic 353, 3) := by decide +kernel
theorem dX8_handOver_91 : decode cX8_handOver 91 = .ok (.ifCond .eq 8, 3) := by decide +kernel
theorem dX8_handOver_94 : decode cX8_handOver 94 = .ok (.aload_n 3, 1) := by decide +kernel
theorem dX8_handOver_95 : decode cX8_handOver 95 = .ok (.iconst 0, 1) := by decide +kernel
theorem dX8_handOver_96 : decode cX8_handOver 96 = .ok (.putfield 139, 3) := by decide +kernel
theorem dX8_handOver_99 : decode cX8_handOver 99 = .ok (.iinc 2 1, 3) := by decide +kernel
theorem dX8_handOver_102 : decode cX8_handOver 102 = .ok (.goto (-42), 3) := by decide +kernel
theorem dX8_handOver_105 : decode cX8_handOver 105 = .ok (.return_, 1) := by decide +kernel
theorem dX8_dueSides_0 : decode cX8_dueSides 0 = .ok (.iconst 0, 1) := by decide +kernel
theorem dX8_dueSides_1 : decode cX8_dueSides 1 = .ok (.istore_n 2, 1) := by decide +kernel
theorem dX8_dueSides_2 : decode cX8_dueSides 2 = .ok (.iconst 0, 1) := by decide +kernel
theorem dX8_dueSides_3 : decode cX8_dueSides 3 = .ok (.istore_n 3, 1) := by decide +kernel
theorem dX8_dueSides_4 : decode cX8_dueSides 4 = .ok (.iload_n 3, 1) := by decide +kernel
theorem dX8_dueSides_5 : decode cX8_dueSides 5 = .ok (.aload_n 0, 1) := by decide +kernel
theorem dX8_dueSides_6 : decode cX8_dueSides 6 = .ok (.getfield 16, 3) := by decide +kernel
theorem dX8_dueSides_9 : decode cX8_dueSides 9 = .ok (.invokevirtual 77, 3) := by decide +kernel
theorem dX8_dueSides_12 : decode cX8_dueSides 12 = .ok (.if_icmp .ge 50, 3) := by decide +kernel
theorem dX8_dueSides_15 : decode cX8_dueSides 15 = .ok (.aload_n 0, 1) := by decide +kernel
theorem dX8_dueSides_16 : decode cX8_dueSides 16 = .ok (.getfield 16, 3) := by decide +kernel
theorem dX8_dueSides_19 : decode cX8_dueSides 19 = .ok (.iload_n 3, 1) := by decide +kernel
theorem dX8_dueSides_20 : decode cX8_dueSides 20 = .ok (.invokevirtual 153, 3) := by decide +kernel
theorem dX8_dueSides_23 : decode cX8_dueSides 23 = .ok (.checkcast 110, 3) := by decide +kernel
theorem dX8_dueSides_26 : decode cX8_dueSides 26 = .ok (.astore 4, 2) := by decide +kernel
theorem dX8_dueSides_28 : decode cX8_dueSides 28 = .ok (.aload 4, 2) := by decide +kernel
theorem dX8_dueSides_30 : decode cX8_dueSides 30 = .ok (.getfield 169, 3) := by decide +kernel
theorem dX8_dueSides_33 : decode cX8_dueSides 33 = .ok (.aload_n 1, 1) := by decide +kernel
theorem dX8_dueSides_34 : decode cX8_dueSides 34 = .ok (.if_acmp .ne 22, 3) := by decide +kernel
theorem dX8_dueSides_37 : decode cX8_dueSides 37 = .ok (.aload_n 0, 1) := by decide +kernel
theorem dX8_dueSides_38 : decode cX8_dueSides 38 = .ok (.aload 4, 2) := by decide +kernel
theorem dX8_dueSides_40 : decode cX8_dueSides 40 = .ok (.invokevirtual 157, 3) := by decide +kernel
theorem dX8_dueSides_43 : decode cX8_dueSides 43 = .ok (.ifCond .eq 13, 3) := by decide +kernel
theorem dX8_dueSides_46 : decode cX8_dueSides 46 = .ok (.iload_n 2, 1) := by decide +kernel
theorem dX8_dueSides_47 : decode cX8_dueSides 47 = .ok (.iconst 1, 1) := by decide +kernel
theorem dX8_dueSides_48 : decode cX8_dueSides 48 = .ok (.aload 4, 2) := by decide +kernel
theorem dX8_dueSides_50 : decode cX8_dueSides 50 = .ok (.getfield 173, 3) := by decide +kernel
theorem dX8_dueSides_53 : decode cX8_dueSides 53 = .ok (.ishl, 1) := by decide +kernel
theorem dX8_dueSides_54 : decode cX8_dueSides 54 = .ok (.ior, 1) := by decide +kernel
theorem dX8_dueSides_55 : decode cX8_dueSides 55 = .ok (.istore_n 2, 1) := by decide +kernel
theorem dX8_dueSides_56 : decode cX8_dueSides 56 = .ok (.iinc 3 1, 3) := by decide +kernel
theorem dX8_dueSides_59 : decode cX8_dueSides 59 = .ok (.goto (-55), 3) := by decide +kernel
theorem dX8_dueSides_62 : decode cX8_dueSides 62 = .ok (.iload_n 2, 1) := by decide +kernel
theorem dX8_dueSides_63 : decode cX8_dueSides 63 = .ok (.ireturn, 1) := by decide +kernel
theorem dX8_collect_0 : decode cX8_collect 0 = .ok (.aload_n 0, 1) := by decide +kernel
theorem dX8_collect_1 : decode cX8_collect 1 = .ok (.getfield 37, 3) := by decide +kernel
theorem dX8_collect_4 : decode cX8_collect 4 = .ok (.invokevirtual 360, 3) := by decide +kernel
theorem dX8_collect_7 : decode cX8_collect 7 = .ok (.iconst 0, 1) := by decide +kernel
theorem dX8_collect_8 : decode cX8_collect 8 = .ok (.istore_n 2, 1) := by decide +kernel
theorem dX8_collect_9 : decode cX8_collect 9 = .ok (.iload_n 2, 1) := by decide +kernel
theorem dX8_collect_10 : decode cX8_collect 10 = .ok (.aload_n 0, 1) := by decide +kernel
theorem dX8_collect_11 : decode cX8_collect 11 = .ok (.getfield 10, 3) := by decide +kernel
theorem dX8_collect_14 : decode cX8_collect 14 = .ok (.invokevirtual 77, 3) := by decide +kernel
theorem dX8_collect_17 : decode cX8_collect 17 = .ok (.if_icmp .ge 42, 3) := by decide +kernel
theorem dX8_collect_20 : decode cX8_collect 20 = .ok (.aload_n 0, 1) := by decide +kernel
theorem dX8_collect_21 : decode cX8_collect 21 = .ok (.getfield 10, 3) := by decide +kernel
theorem dX8_collect_24 : decode cX8_collect 24 = .ok (.iload_n 2, 1) := by decide +kernel
theorem dX8_collect_25 : decode cX8_collect 25 = .ok (.invokevirtual 153, 3) := by decide +kernel
theorem dX8_collect_28 : decode cX8_collect 28 = .ok (.checkcast 83, 3) := by decide +kernel
theorem dX8_collect_31 : decode cX8_collect 31 = .ok (.astore_n 3, 1) := by decide +kernel
theorem dX8_collect_32 : decode cX8_collect 32 = .ok (.aload_n 3, 1) := by decide +kernel
theorem dX8_collect_33 : decode cX8_collect 33 = .ok (.iload_n 1, 1) := by decide +kernel
theorem dX8_collect_34 : decode cX8_collect 34 = .ok (.invokestatic 353, 3) := by decide +kernel
theorem dX8_collect_37 : decode cX8_collect 37 = .ok (.ifCond .eq 16, 3) := by decide +kernel
theorem dX8_collect_40 : decode cX8_collect 40 = .ok (.aload_n 0, 1) := by decide +kernel
theorem dX8_collect_41 : decode cX8_collect 41 = .ok (.getfield 37, 3) := by decide +kernel
theorem dX8_collect_44 : decode cX8_collect 44 = .ok (.aload_n 3, 1) := by decide +kernel
theorem dX8_collect_45 : decode cX8_collect 45 = .ok (.aload_n 0, 1) := by decide +kernel
theorem dX8_collect_46 : decode cX8_collect 46 = .ok (.aload_n 3, 1) := by decide +kernel
theorem dX8_collect_47 : decode cX8_collect 47 = .ok (.invokevirtual 361, 3) := by decide +kernel
theorem dX8_collect_50 : decode cX8_collect 50 = .ok (.invokevirtual 365, 3) := by decide +kernel
theorem dX8_collect_53 : decode cX8_collect 53 = .ok (.iinc 2 1, 3) := by decide +kernel
theorem dX8_collect_56 : decode cX8_collect 56 = .ok (.goto (-47), 3) := by decide +kernel
theorem dX8_collect_59 : decode cX8_collect 59 = .ok (.return_, 1) := by decide +kernel
theorem dX8_collectWalk_0 : decode cX8_collectWalk 0 = .ok (.aload_n 0, 1) := by decide +kernel
theorem dX8_collectWalk_1 : decode cX8_collectWalk 1 = .ok (.iload_n 1, 1) := by decide +kernel
theorem dX8_collectWalk_2 : decode cX8_collectWalk 2 = .ok (.invokevirtual 124, 3) := by decide +kernel
theorem dX8_collectWalk_5 : decode cX8_collectWalk 5 = .ok (.pop, 1) := by decide +kernel
theorem dX8_collectWalk_6 : decode cX8_collectWalk 6 = .ok (.aload_n 0, 1) := by decide +kernel
theorem dX8_collectWalk_7 : decode cX8_collectWalk 7 = .ok (.iload_n 1, 1) := by decide +kernel
theorem dX8_collectWalk_8 : decode cX8_collectWalk 8 = .ok (.invokestatic 185, 3) := by decide +kernel
theorem dX8_collectWalk_11 : decode cX8_collectWalk 11 = .ok (.invokevirtual 206, 3) := by decide +kernel
theorem dX8_collectWalk_14 : decode cX8_collectWalk 14 = .ok (.aload_n 0, 1) := by decide +kernel
theorem dX8_collectWalk_15 : decode cX8_collectWalk 15 = .ok (.getfield 37, 3) := by decide +kernel
theorem dX8_collectWalk_18 : decode cX8_collectWalk 18 = .ok (.invokevirtual 212, 3) := by decide +kernel
theorem dX8_collectWalk_21 : decode cX8_collectWalk 21 = .ok (.ifCond .ne 14, 3) := by decide +kernel
theorem dX8_collectWalk_24 : decode cX8_collectWalk 24 = .ok (.new 57, 3) := by decide +kernel
theorem dX8_collectWalk_27 : decode cX8_collectWalk 27 = .ok (.dup, 1) := by decide +kernel
theorem dX8_collectWalk_28 : decode cX8_collectWalk 28 = .ok (.ldc_w 369, 3) := by decide +kernel
theorem dX8_collectWalk_31 : decode cX8_collectWalk 31 = .ok (.invokespecial 61, 3) := by decide +kernel
theorem dX8_collectWalk_34 : decode cX8_collectWalk 34 = .ok (.athrow, 1) := by decide +kernel
theorem dX8_collectWalk_35 : decode cX8_collectWalk 35 = .ok (.return_, 1) := by decide +kernel
theorem dX8_lengthOf_0 : decode cX8_lengthOf 0 = .ok (.aload_n 0, 1) := by decide +kernel
theorem dX8_lengthOf_1 : decode cX8_lengthOf 1 = .ok (.iload_n 1, 1) := by decide +kernel
theorem dX8_lengthOf_2 : decode cX8_lengthOf 2 = .ok (.invokevirtual 206, 3) := by decide +kernel
theorem dX8_lengthOf_5 : decode cX8_lengthOf 5 = .ok (.aload_n 0, 1) := by decide +kernel
theorem dX8_lengthOf_6 : decode cX8_lengthOf 6 = .ok (.getfield 37, 3) := by decide +kernel
theorem dX8_lengthOf_9 : decode cX8_lengthOf 9 = .ok (.invokevirtual 212, 3) := by decide +kernel
theorem dX8_lengthOf_12 : decode cX8_lengthOf 12 = .ok (.ifCond .eq 13, 3) := by decide +kernel
theorem dX8_lengthOf_15 : decode cX8_lengthOf 15 = .ok (.aload_n 0, 1) := by decide +kernel
theorem dX8_lengthOf_16 : decode cX8_lengthOf 16 = .ok (.getfield 37, 3) := by decide +kernel
theorem dX8_lengthOf_19 : decode cX8_lengthOf 19 = .ok (.invokevirtual 219, 3) := by decide +kernel
theorem dX8_lengthOf_22 : decode cX8_lengthOf 22 = .ok (.goto 4, 3) := by decide +kernel
theorem dX8_lengthOf_25 : decode cX8_lengthOf 25 = .ok (.iconst (-1), 1) := by decide +kernel
theorem dX8_lengthOf_26 : decode cX8_lengthOf 26 = .ok (.ireturn, 1) := by decide +kernel
theorem dX8_checkedSaving_0 : decode cX8_checkedSaving 0 = .ok (.aload_n 0, 1) := by decide +kernel
theorem dX8_checkedSaving_1 : decode cX8_checkedSaving 1 = .ok (.iload_n 1, 1) := by decide +kernel
theorem dX8_checkedSaving_2 : decode cX8_checkedSaving 2 = .ok (.invokevirtual 124, 3) := by decide +kernel
theorem dX8_checkedSaving_5 : decode cX8_checkedSaving 5 = .ok (.pop, 1) := by decide +kernel
theorem dX8_checkedSaving_6 : decode cX8_checkedSaving 6 = .ok (.aload_n 0, 1) := by decide +kernel
theorem dX8_checkedSaving_7 : decode cX8_checkedSaving 7 = .ok (.iload_n 2, 1) := by decide +kernel
theorem dX8_checkedSaving_8 : decode cX8_checkedSaving 8 = .ok (.invokevirtual 124, 3) := by decide +kernel
theorem dX8_checkedSaving_11 : decode cX8_checkedSaving 11 = .ok (.pop, 1) := by decide +kernel
theorem dX8_checkedSaving_12 : decode cX8_checkedSaving 12 = .ok (.iload_n 1, 1) := by decide +kernel
theorem dX8_checkedSaving_13 : decode cX8_checkedSaving 13 = .ok (.iload_n 2, 1) := by decide +kernel
theorem dX8_checkedSaving_14 : decode cX8_checkedSaving 14 = .ok (.if_icmp .ne 14, 3) := by decide +kernel
theorem dX8_checkedSaving_17 : decode cX8_checkedSaving 17 = .ok (.new 72, 3) := by decide +kernel
theorem dX8_checkedSaving_20 : decode cX8_checkedSaving 20 = .ok (.dup, 1) := by decide +kernel
theorem dX8_checkedSaving_21 : decode cX8_checkedSaving 21 = .ok (.ldc_w 371, 3) := by decide +kernel
theorem dX8_checkedSaving_24 : decode cX8_checkedSaving 24 = .ok (.invokespecial 76, 3) := by decide +kernel
theorem dX8_checkedSaving_27 : decode cX8_checkedSaving 27 = .ok (.athrow, 1) := by decide +kernel
theorem dX8_checkedSaving_28 : decode cX8_checkedSaving 28 = .ok (.aload_n 0, 1) := by decide +kernel
theorem dX8_checkedSaving_29 : decode cX8_checkedSaving 29 = .ok (.iload_n 1, 1) := by decide +kernel
theorem dX8_checkedSaving_30 : decode cX8_checkedSaving 30 = .ok (.invokestatic 185, 3) := by decide +kernel
theorem dX8_checkedSaving_33 : decode cX8_checkedSaving 33 = .ok (.invokevirtual 256, 3) := by decide +kernel
theorem dX8_checkedSaving_36 : decode cX8_checkedSaving 36 = .ok (.istore_n 3, 1) := by decide +kernel
theorem dX8_checkedSaving_37 : decode cX8_checkedSaving 37 = .ok (.aload_n 0, 1) := by decide +kernel
theorem dX8_checkedSaving_38 : decode cX8_checkedSaving 38 = .ok (.iload_n 2, 1) := by decide +kernel
theorem dX8_checkedSaving_39 : decode cX8_checkedSaving 39 = .ok (.invokestatic 185, 3) := by decide +kernel
theorem dX8_checkedSaving_42 : decode cX8_checkedSaving 42 = .ok (.invokevirtual 256, 3) := by decide +kernel
theorem dX8_checkedSaving_45 : decode cX8_checkedSaving 45 = .ok (.istore 4, 2) := by decide +kernel
theorem dX8_checkedSaving_47 : decode cX8_checkedSaving 47 = .ok (.aload_n 0, 1) := by decide +kernel
theorem dX8_checkedSaving_48 : decode cX8_checkedSaving 48 = .ok (.iload_n 1, 1) := by decide +kernel
theorem dX8_checkedSaving_49 : decode cX8_checkedSaving 49 = .ok (.invokestatic 185, 3) := by decide +kernel
theorem dX8_checkedSaving_52 : decode cX8_checkedSaving 52 = .ok (.iload_n 2, 1) := by decide +kernel
theorem dX8_checkedSaving_53 : decode cX8_checkedSaving 53 = .ok (.invokestatic 185, 3) := by decide +kernel
theorem dX8_checkedSaving_56 : decode cX8_checkedSaving 56 = .ok (.ior, 1) := by decide +kernel
theorem dX8_checkedSaving_57 : decode cX8_checkedSaving 57 = .ok (.invokevirtual 256, 3) := by decide +kernel
theorem dX8_checkedSaving_60 : decode cX8_checkedSaving 60 = .ok (.istore 5, 2) := by decide +kernel
theorem dX8_checkedSaving_62 : decode cX8_checkedSaving 62 = .ok (.iload_n 3, 1) := by decide +kernel
theorem dX8_checkedSaving_63 : decode cX8_checkedSaving 63 = .ok (.iconst (-1), 1) := by decide +kernel
theorem dX8_checkedSaving_64 : decode cX8_checkedSaving 64 = .ok (.if_icmp .eq 15, 3) := by decide +kernel
theorem dX8_checkedSaving_67 : decode cX8_checkedSaving 67 = .ok (.iload 4, 2) := by decide +kernel
theorem dX8_checkedSaving_69 : decode cX8_checkedSaving 69 = .ok (.iconst (-1), 1) := by decide +kernel
theorem dX8_checkedSaving_70 : decode cX8_checkedSaving 70 = .ok (.if_icmp .eq 9, 3) := by decide +kernel
theorem dX8_checkedSaving_73 : decode cX8_checkedSaving 73 = .ok (.iload 5, 2) := by decide +kernel
theorem dX8_checkedSaving_75 : decode cX8_checkedSaving 75 = .ok (.iconst (-1), 1) := by decide +kernel
theorem dX8_checkedSaving_76 : decode cX8_checkedSaving 76 = .ok (.if_icmp .ne 14, 3) := by decide +kernel
theorem dX8_checkedSaving_79 : decode cX8_checkedSaving 79 = .ok (.new 57, 3) := by decide +kernel
theorem dX8_checkedSaving_82 : decode cX8_checkedSaving 82 = .ok (.dup, 1) := by decide +kernel
theorem dX8_checkedSaving_83 : decode cX8_checkedSaving 83 = .ok (.ldc_w 373, 3) := by decide +kernel
theorem dX8_checkedSaving_86 : decode cX8_checkedSaving 86 = .ok (.invokespecial 61, 3) := by decide +kernel
theorem dX8_checkedSaving_89 : decode cX8_checkedSaving 89 = .ok (.athrow, 1) := by decide +kernel
theorem dX8_checkedSaving_90 : decode cX8_checkedSaving 90 = .ok (.iload_n 3, 1) := by decide +kernel
theorem dX8_checkedSaving_91 : decode cX8_checkedSaving 91 = .ok (.iload 4, 2) := by decide +kernel
theorem dX8_checkedSaving_93 : decode cX8_checkedSaving 93 = .ok (.iadd, 1) := by decide +kernel
theorem dX8_checkedSaving_94 : decode cX8_checkedSaving 94 = .ok (.iload 5, 2) := by decide +kernel
theorem dX8_checkedSaving_96 : decode cX8_checkedSaving 96 = .ok (.isub, 1) := by decide +kernel
theorem dX8_checkedSaving_97 : decode cX8_checkedSaving 97 = .ok (.ireturn, 1) := by decide +kernel
theorem dX8_measurePairs_0 : decode cX8_measurePairs 0 = .ok (.iconst 0, 1) := by decide +kernel
theorem dX8_measurePairs_1 : decode cX8_measurePairs 1 = .ok (.istore_n 1, 1) := by decide +kernel
theorem dX8_measurePairs_2 : decode cX8_measurePairs 2 = .ok (.iload_n 1, 1) := by decide +kernel
theorem dX8_measurePairs_3 : decode cX8_measurePairs 3 = .ok (.aload_n 0, 1) := by decide +kernel
theorem dX8_measurePairs_4 : decode cX8_measurePairs 4 = .ok (.getfield 19, 3) := by decide +kernel
theorem dX8_measurePairs_7 : decode cX8_measurePairs 7 = .ok (.invokevirtual 77, 3) := by decide +kernel
theorem dX8_measurePairs_10 : decode cX8_measurePairs 10 = .ok (.if_icmp .ge 62, 3) := by decide +kernel
theorem dX8_measurePairs_13 : decode cX8_measurePairs 13 = .ok (.iload_n 1, 1) := by decide +kernel
theorem dX8_measurePairs_14 : decode cX8_measurePairs 14 = .ok (.istore_n 2, 1) := by decide +kernel
theorem dX8_measurePairs_15 : decode cX8_measurePairs 15 = .ok (.iload_n 2, 1) := by decide +kernel
theorem dX8_measurePairs_16 : decode cX8_measurePairs 16 = .ok (.aload_n 0, 1) := by decide +kernel
theorem dX8_measurePairs_17 : decode cX8_measurePairs 17 = .ok (.getfield 19, 3) := by decide +kernel
theorem dX8_measurePairs_20 : decode cX8_measurePairs 20 = .ok (.invokevirtual 77, 3) := by decide +kernel
theorem dX8_measurePairs_23 : decode cX8_measurePairs 23 = .ok (.if_icmp .ge 43, 3) := by decide +kernel
theorem dX8_measurePairs_26 : decode cX8_measurePairs 26 = .ok (.aload_n 0, 1) := by decide +kernel
theorem dX8_measurePairs_27 : decode cX8_measurePairs 27 = .ok (.iload_n 1, 1) := by decide +kernel
theorem dX8_measurePairs_28 : decode cX8_measurePairs 28 = .ok (.invokestatic 185, 3) := by decide +kernel
theorem dX8_measurePairs_31 : decode cX8_measurePairs 31 = .ok (.iload_n 2, 1) := by decide +kernel
theorem dX8_measurePairs_32 : decode cX8_measurePairs 32 = .ok (.invokestatic 185, 3) := by decide +kernel
theorem dX8_measurePairs_35 : decode cX8_measurePairs 35 = .ok (.ior, 1) := by decide +kernel
theorem dX8_measurePairs_36 : decode cX8_measurePairs 36 = .ok (.invokevirtual 256, 3) := by decide +kernel
theorem dX8_measurePairs_39 : decode cX8_measurePairs 39 = .ok (.istore_n 3, 1) := by decide +kernel
theorem dX8_measurePairs_40 : decode cX8_measurePairs 40 = .ok (.aload_n 0, 1) := by decide +kernel
theorem dX8_measurePairs_41 : decode cX8_measurePairs 41 = .ok (.getfield 46, 3) := by decide +kernel
theorem dX8_measurePairs_44 : decode cX8_measurePairs 44 = .ok (.iload_n 1, 1) := by decide +kernel
theorem dX8_measurePairs_45 : decode cX8_measurePairs 45 = .ok (.iload_n 2, 1) := by decide +kernel
theorem dX8_measurePairs_46 : decode cX8_measurePairs 46 = .ok (.iload_n 3, 1) := by decide +kernel
theorem dX8_measurePairs_47 : decode cX8_measurePairs 47 = .ok (.invokevirtual 375, 3) := by decide +kernel
theorem dX8_measurePairs_50 : decode cX8_measurePairs 50 = .ok (.aload_n 0, 1) := by decide +kernel
theorem dX8_measurePairs_51 : decode cX8_measurePairs 51 = .ok (.getfield 46, 3) := by decide +kernel
theorem dX8_measurePairs_54 : decode cX8_measurePairs 54 = .ok (.iload_n 2, 1) := by decide +kernel
theorem dX8_measurePairs_55 : decode cX8_measurePairs 55 = .ok (.iload_n 1, 1) := by decide +kernel
theorem dX8_measurePairs_56 : decode cX8_measurePairs 56 = .ok (.iload_n 3, 1) := by decide +kernel
theorem dX8_measurePairs_57 : decode cX8_measurePairs 57 = .ok (.invokevirtual 375, 3) := by decide +kernel
theorem dX8_measurePairs_60 : decode cX8_measurePairs 60 = .ok (.iinc 2 1, 3) := by decide +kernel
theorem dX8_measurePairs_63 : decode cX8_measurePairs 63 = .ok (.goto (-48), 3) := by decide +kernel
theorem dX8_measurePairs_66 : decode cX8_measurePairs 66 = .ok (.iinc 1 1, 3) := by decide +kernel
theorem dX8_measurePairs_69 : decode cX8_measurePairs 69 = .ok (.goto (-67), 3) := by decide +kernel
theorem dX8_measurePairs_72 : decode cX8_measurePairs 72 = .ok (.return_, 1) := by decide +kernel
theorem dX8_savedWithin_0 : decode cX8_savedWithin 0 = .ok (.iload_n 2, 1) := by decide +kernel
theorem dX8_savedWithin_1 : decode cX8_savedWithin 1 = .ok (.invokestatic 185, 3) := by decide +kernel
theorem dX8_savedWithin_4 : decode cX8_savedWithin 4 = .ok (.iload_n 3, 1) := by decide +kernel
theorem dX8_savedWithin_5 : decode cX8_savedWithin 5 = .ok (.invokestatic 185, 3) := by decide +kernel
theorem dX8_savedWithin_8 : decode cX8_savedWithin 8 = .ok (.ior, 1) := by decide +kernel
theorem dX8_savedWithin_9 : decode cX8_savedWithin 9 = .ok (.istore 4, 2) := by decide +kernel
theorem dX8_savedWithin_11 : decode cX8_savedWithin 11 = .ok (.aload_n 0, 1) := by decide +kernel
theorem dX8_savedWithin_12 : decode cX8_savedWithin 12 = .ok (.getfield 46, 3) := by decide +kernel
theorem dX8_savedWithin_15 : decode cX8_savedWithin 15 = .ok (.iload_n 2, 1) := by decide +kernel
theorem dX8_savedWithin_16 : decode cX8_savedWithin 16 = .ok (.iload_n 2, 1) := by decide +kernel
theorem dX8_savedWithin_17 : decode cX8_savedWithin 17 = .ok (.invokevirtual 195, 3) := by decide +kernel
theorem dX8_savedWithin_20 : decode cX8_savedWithin 20 = .ok (.istore 5, 2) := by decide +kernel
theorem dX8_savedWithin_22 : decode cX8_savedWithin 22 = .ok (.aload_n 0, 1) := by decide +kernel
theorem dX8_savedWithin_23 : decode cX8_savedWithin 23 = .ok (.getfield 46, 3) := by decide +kernel
theorem dX8_savedWithin_26 : decode cX8_savedWithin 26 = .ok (.iload_n 3, 1) := by decide +kernel
theorem dX8_savedWithin_27 : decode cX8_savedWithin 27 = .ok (.iload_n 3, 1) := by decide +kernel
theorem dX8_savedWithin_28 : decode cX8_savedWithin 28 = .ok (.invokevirtual 195, 3) := by decide +kernel
theorem dX8_savedWithin_31 : decode cX8_savedWithin 31 = .ok (.istore 6, 2) := by decide +kernel
theorem dX8_savedWithin_33 : decode cX8_savedWithin 33 = .ok (.aload_n 0, 1) := by decide +kernel
theorem dX8_savedWithin_34 : decode cX8_savedWithin 34 = .ok (.getfield 46, 3) := by decide +kernel
theorem dX8_savedWithin_37 : decode cX8_savedWithin 37 = .ok (.iload_n 2, 1) := by decide +kernel
theorem dX8_savedWithin_38 : decode cX8_savedWithin 38 = .ok (.iload_n 3, 1) := by decide +kernel
theorem dX8_savedWithin_39 : decode cX8_savedWithin 39 = .ok (.invokevirtual 195, 3) := by decide +kernel
theorem dX8_savedWithin_42 : decode cX8_savedWithin 42 = .ok (.istore 7, 2) := by decide +kernel
theorem dX8_savedWithin_44 : decode cX8_savedWithin 44 = .ok (.iload 5, 2) := by decide +kernel
theorem dX8_savedWithin_46 : decode cX8_savedWithin 46 = .ok (.iconst (-1), 1) := by decide +kernel
theorem dX8_savedWithin_47 : decode cX8_savedWithin 47 = .ok (.if_icmp .eq 21, 3) := by decide +kernel
theorem dX8_savedWithin_50 : decode cX8_savedWithin 50 = .ok (.iload 6, 2) := by decide +kernel
theorem dX8_savedWithin_52 : decode cX8_savedWithin 52 = .ok (.iconst (-1), 1) := by decide +kernel
theorem dX8_savedWithin_53 : decode cX8_savedWithin 53 = .ok (.if_icmp .eq 15, 3) := by decide +kernel
theorem dX8_savedWithin_56 : decode cX8_savedWithin 56 = .ok (.aload_n 0, 1) := by decide +kernel
theorem dX8_savedWithin_57 : decode cX8_savedWithin 57 = .ok (.iload_n 1, 1) := by decide +kernel
theorem dX8_savedWithin_58 : decode cX8_savedWithin 58 = .ok (.iload 7, 2) := by decide +kernel
theorem dX8_savedWithin_60 : decode cX8_savedWithin 60 = .ok (.iload 4, 2) := by decide +kernel
theorem dX8_savedWithin_62 : decode cX8_savedWithin 62 = .ok (.invokevirtual 259, 3) := by decide +kernel
theorem dX8_savedWithin_65 : decode cX8_savedWithin 65 = .ok (.ifCond .ne 5, 3) := by decide +kernel
theorem dX8_savedWithin_68 : decode cX8_savedWithin 68 = .ok (.iconst 0, 1) := by decide +kernel
theorem dX8_savedWithin_69 : decode cX8_savedWithin 69 = .ok (.ireturn, 1) := by decide +kernel
theorem dX8_savedWithin_70 : decode cX8_savedWithin 70 = .ok (.iload 5, 2) := by decide +kernel
theorem dX8_savedWithin_72 : decode cX8_savedWithin 72 = .ok (.iload 6, 2) := by decide +kernel
theorem dX8_savedWithin_74 : decode cX8_savedWithin 74 = .ok (.iadd, 1) := by decide +kernel
theorem dX8_savedWithin_75 : decode cX8_savedWithin 75 = .ok (.iload 7, 2) := by decide +kernel
theorem dX8_savedWithin_77 : decode cX8_savedWithin 77 = .ok (.isub, 1) := by decide +kernel
theorem dX8_savedWithin_78 : decode cX8_savedWithin 78 = .ok (.ireturn, 1) := by decide +kernel
theorem dX8_wayTo_0 : decode cX8_wayTo 0 = .ok (.aload_n 0, 1) := by decide +kernel
theorem dX8_wayTo_1 : decode cX8_wayTo 1 = .ok (.getfield 28, 3) := by decide +kernel
theorem dX8_wayTo_4 : decode cX8_wayTo 4 = .ok (.getfield 192, 3) := by decide +kernel
theorem dX8_wayTo_7 : decode cX8_wayTo 7 = .ok (.iconst 0, 1) := by decide +kernel
theorem dX8_wayTo_8 : decode cX8_wayTo 8 = .ok (.aload_n 1, 1) := by decide +kernel
theorem dX8_wayTo_9 : decode cX8_wayTo 9 = .ok (.getfield 345, 3) := by decide +kernel
theorem dX8_wayTo_12 : decode cX8_wayTo 12 = .ok (.getfield 169, 3) := by decide +kernel
theorem dX8_wayTo_15 : decode cX8_wayTo 15 = .ok (.getfield 379, 3) := by decide +kernel
theorem dX8_wayTo_18 : decode cX8_wayTo 18 = .ok (.invokevirtual 195, 3) := by decide +kernel
theorem dX8_wayTo_21 : decode cX8_wayTo 21 = .ok (.ireturn, 1) := by decide +kernel
theorem dX8_comesBefore_0 : decode cX8_comesBefore 0 = .ok (.aload_n 1, 1) := by decide +kernel
theorem dX8_comesBefore_1 : decode cX8_comesBefore 1 = .ok (.getfield 320, 3) := by decide +kernel
theorem dX8_comesBefore_4 : decode cX8_comesBefore 4 = .ok (.aload_n 2, 1) := by decide +kernel
theorem dX8_comesBefore_5 : decode cX8_comesBefore 5 = .ok (.getfield 320, 3) := by decide +kernel
theorem dX8_comesBefore_8 : decode cX8_comesBefore 8 = .ok (.if_icmp .eq 20, 3) := by decide +kernel
theorem dX8_comesBefore_11 : decode cX8_comesBefore 11 = .ok (.aload_n 1, 1) := by decide +kernel
theorem dX8_comesBefore_12 : decode cX8_comesBefore 12 = .ok (.getfield 320, 3) := by decide +kernel
theorem dX8_comesBefore_15 : decode cX8_comesBefore 15 = .ok (.aload_n 2, 1) := by decide +kernel
theorem dX8_comesBefore_16 : decode cX8_comesBefore 16 = .ok (.getfield 320, 3) := by decide +kernel
theorem dX8_comesBefore_19 : decode cX8_comesBefore 19 = .ok (.if_icmp .ge 7, 3) := by decide +kernel
theorem dX8_comesBefore_22 : decode cX8_comesBefore 22 = .ok (.iconst 1, 1) := by decide +kernel
theorem dX8_comesBefore_23 : decode cX8_comesBefore 23 = .ok (.goto 4, 3) := by decide +kernel
theorem dX8_comesBefore_26 : decode cX8_comesBefore 26 = .ok (.iconst 0, 1) := by decide +kernel
theorem dX8_comesBefore_27 : decode cX8_comesBefore 27 = .ok (.ireturn, 1) := by decide +kernel
theorem dX8_comesBefore_28 : decode cX8_comesBefore 28 = .ok (.aload_n 0, 1) := by decide +kernel
theorem dX8_comesBefore_29 : decode cX8_comesBefore 29 = .ok (.aload_n 1, 1) := by decide +kernel
theorem dX8_comesBefore_30 : decode cX8_comesBefore 30 = .ok (.invokevirtual 382, 3) := by decide +kernel
theorem dX8_comesBefore_33 : decode cX8_comesBefore 33 = .ok (.aload_n 0, 1) := by decide +kernel
theorem dX8_comesBefore_34 : decode cX8_comesBefore 34 = .ok (.aload_n 2, 1) := by decide +kernel
theorem dX8_comesBefore_35 : decode cX8_comesBefore 35 = .ok (.invokevirtual 382, 3) := by decide +kernel
theorem dX8_comesBefore_38 : decode cX8_comesBefore 38 = .ok (.if_icmp .ge 7, 3) := by decide +kernel
theorem dX8_comesBefore_41 : decode cX8_comesBefore 41 = .ok (.iconst 1, 1) := by decide +kernel
theorem dX8_comesBefore_42 : decode cX8_comesBefore 42 = .ok (.goto 4, 3) := by decide +kernel
theorem dX8_comesBefore_45 : decode cX8_comesBefore 45 = .ok (.iconst 0, 1) := by decide +kernel
theorem dX8_comesBefore_46 : decode cX8_comesBefore 46 = .ok (.ireturn, 1) := by decide +kernel
theorem dX8_checkedTrip_0 : decode cX8_checkedTrip 0 = .ok (.aload_n 0, 1) := by decide +kernel
theorem dX8_checkedTrip_1 : decode cX8_checkedTrip 1 = .ok (.aload_n 1, 1) := by decide +kernel
theorem dX8_checkedTrip_2 : decode cX8_checkedTrip 2 = .ok (.invokevirtual 382, 3) := by decide +kernel
theorem dX8_checkedTrip_5 : decode cX8_checkedTrip 5 = .ok (.istore_n 2, 1) := by decide +kernel
theorem dX8_checkedTrip_6 : decode cX8_checkedTrip 6 = .ok (.iload_n 2, 1) := by decide +kernel
theorem dX8_checkedTrip_7 : decode cX8_checkedTrip 7 = .ok (.ldc_w 333, 3) := by decide +kernel
theorem dX8_checkedTrip_10 : decode cX8_checkedTrip 10 = .ok (.if_icmp .lt 14, 3) := by decide +kernel
theorem dX8_checkedTrip_13 : decode cX8_checkedTrip 13 = .ok (.new 222, 3) := by decide +kernel
theorem dX8_checkedTrip_16 : decode cX8_checkedTrip 16 = .ok (.dup, 1) := by decide +kernel
theorem dX8_checkedTrip_17 : decode cX8_checkedTrip 17 = .ok (.ldc_w 385, 3) := by decide +kernel
theorem dX8_checkedTrip_20 : decode cX8_checkedTrip 20 = .ok (.invokespecial 226, 3) := by decide +kernel
theorem dX8_checkedTrip_23 : decode cX8_checkedTrip 23 = .ok (.athrow, 1) := by decide +kernel
theorem dX8_checkedTrip_24 : decode cX8_checkedTrip 24 = .ok (.iconst 2, 1) := by decide +kernel
theorem dX8_checkedTrip_25 : decode cX8_checkedTrip 25 = .ok (.iload_n 2, 1) := by decide +kernel
theorem dX8_checkedTrip_26 : decode cX8_checkedTrip 26 = .ok (.imul, 1) := by decide +kernel
theorem dX8_checkedTrip_27 : decode cX8_checkedTrip 27 = .ok (.iconst 2, 1) := by decide +kernel
theorem dX8_checkedTrip_28 : decode cX8_checkedTrip 28 = .ok (.aload_n 1, 1) := by decide +kernel
theorem dX8_checkedTrip_29 : decode cX8_checkedTrip 29 = .ok (.getfield 345, 3) := by decide +kernel
theorem dX8_checkedTrip_32 : decode cX8_checkedTrip 32 = .ok (.getfield 342, 3) := by decide +kernel
theorem dX8_checkedTrip_35 : decode cX8_checkedTrip 35 = .ok (.imul, 1) := by decide +kernel
theorem dX8_checkedTrip_36 : decode cX8_checkedTrip 36 = .ok (.iadd, 1) := by decide +kernel
theorem dX8_checkedTrip_37 : decode cX8_checkedTrip 37 = .ok (.iconst 2, 1) := by decide +kernel
theorem dX8_checkedTrip_38 : decode cX8_checkedTrip 38 = .ok (.iadd, 1) := by decide +kernel
theorem dX8_checkedTrip_39 : decode cX8_checkedTrip 39 = .ok (.iconst 3, 1) := by decide +kernel
theorem dX8_checkedTrip_40 : decode cX8_checkedTrip 40 = .ok (.idiv, 1) := by decide +kernel
theorem dX8_checkedTrip_41 : decode cX8_checkedTrip 41 = .ok (.ireturn, 1) := by decide +kernel
