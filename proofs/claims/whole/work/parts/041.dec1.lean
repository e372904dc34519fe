theorem dX0_init_0 : decode cX0_init 0 = .ok (.aload_n 0, 1) := by decide +kernel
theorem dX0_init_1 : decode cX0_init 1 = .ok (.invokespecial 3, 3) := by decide +kernel
theorem dX0_init_4 : decode cX0_init 4 = .ok (.aload_n 0, 1) := by decide +kernel
theorem dX0_init_5 : decode cX0_init 5 = .ok (.iload_n 1, 1) := by decide +kernel
theorem dX0_init_6 : decode cX0_init 6 = .ok (.putfield 9, 3) := by decide +kernel
theorem dX0_init_9 : decode cX0_init 9 = .ok (.aload_n 0, 1) := by decide +kernel
theorem dX0_init_10 : decode cX0_init 10 = .ok (.iload_n 2, 1) := by decide +kernel
theorem dX0_init_11 : decode cX0_init 11 = .ok (.putfield 15, 3) := by decide +kernel
theorem dX0_init_14 : decode cX0_init 14 = .ok (.aload_n 0, 1) := by decide +kernel
theorem dX0_init_15 : decode cX0_init 15 = .ok (.iconst 0, 1) := by decide +kernel
theorem dX0_init_16 : decode cX0_init 16 = .ok (.iload_n 1, 1) := by decide +kernel
theorem dX0_init_17 : decode cX0_init 17 = .ok (.iload_n 2, 1) := by decide +kernel
theorem dX0_init_18 : decode cX0_init 18 = .ok (.imul, 1) := by decide +kernel
theorem dX0_init_19 : decode cX0_init 19 = .ok (.invokestatic 18, 3) := by decide +kernel
theorem dX0_init_22 : decode cX0_init 22 = .ok (.newarray .int, 2) := by decide +kernel
theorem dX0_init_24 : decode cX0_init 24 = .ok (.putfield 24, 3) := by decide +kernel
theorem dX0_init_27 : decode cX0_init 27 = .ok (.aload_n 0, 1) := by decide +kernel
theorem dX0_init_28 : decode cX0_init 28 = .ok (.getfield 24, 3) := by decide +kernel
theorem dX0_init_31 : decode cX0_init 31 = .ok (.ldc 28, 2) := by decide +kernel
theorem dX0_init_33 : decode cX0_init 33 = .ok (.invokestatic 29, 3) := by decide +kernel
theorem dX0_init_36 : decode cX0_init 36 = .ok (.return_, 1) := by decide +kernel
theorem dX0_at_0 : decode cX0_at 0 = .ok (.iload_n 1, 1) := by decide +kernel
theorem dX0_at_1 : decode cX0_at 1 = .ok (.ifCond .lt 23, 3) := by decide +kernel
theorem dX0_at_4 : decode cX0_at 4 = .ok (.iload_n 1, 1) := by decide +kernel
theorem dX0_at_5 : decode cX0_at 5 = .ok (.aload_n 0, 1) := by decide +kernel
theorem dX0_at_6 : decode cX0_at 6 = .ok (.getfield 9, 3) := by decide +kernel
theorem dX0_at_9 : decode cX0_at 9 = .ok (.if_icmp .ge 15, 3) := by decide +kernel
theorem dX0_at_12 : decode cX0_at 12 = .ok (.iload_n 2, 1) := by decide +kernel
theorem dX0_at_13 : decode cX0_at 13 = .ok (.ifCond .lt 11, 3) := by decide +kernel
theorem dX0_at_16 : decode cX0_at 16 = .ok (.iload_n 2, 1) := by decide +kernel
theorem dX0_at_17 : decode cX0_at 17 = .ok (.aload_n 0, 1) := by decide +kernel
theorem dX0_at_18 : decode cX0_at 18 = .ok (.getfield 15, 3) := by decide +kernel
theorem dX0_at_21 : decode cX0_at 21 = .ok (.if_icmp .lt 6, 3) := by decide +kernel
theorem dX0_at_24 : decode cX0_at 24 = .ok (.ldc 28, 2) := by decide +kernel
theorem dX0_at_26 : decode cX0_at 26 = .ok (.ireturn, 1) := by decide +kernel
theorem dX0_at_27 : decode cX0_at 27 = .ok (.aload_n 0, 1) := by decide +kernel
theorem dX0_at_28 : decode cX0_at 28 = .ok (.getfield 24, 3) := by decide +kernel
theorem dX0_at_31 : decode cX0_at 31 = .ok (.iload_n 1, 1) := by decide +kernel
theorem dX0_at_32 : decode cX0_at 32 = .ok (.aload_n 0, 1) := by decide +kernel
theorem dX0_at_33 : decode cX0_at 33 = .ok (.getfield 15, 3) := by decide +kernel
theorem dX0_at_36 : decode cX0_at 36 = .ok (.imul, 1) := by decide +kernel
theorem dX0_at_37 : decode cX0_at 37 = .ok (.iload_n 2, 1) := by decide +kernel
theorem dX0_at_38 : decode cX0_at 38 = .ok (.iadd, 1) := by decide +kernel
theorem dX0_at_39 : decode cX0_at 39 = .ok (.iaload, 1) := by decide +kernel
theorem dX0_at_40 : decode cX0_at 40 = .ok (.ireturn, 1) := by decide +kernel
theorem dX0_put_0 : decode cX0_put 0 = .ok (.iload_n 1, 1) := by decide +kernel
theorem dX0_put_1 : decode cX0_put 1 = .ok (.ifCond .lt 37, 3) := by decide +kernel
theorem dX0_put_4 : decode cX0_put 4 = .ok (.iload_n 1, 1) := by decide +kernel
theorem dX0_put_5 : decode cX0_put 5 = .ok (.aload_n 0, 1) := by decide +kernel
theorem dX0_put_6 : decode cX0_put 6 = .ok (.getfield 9, 3) := by decide +kernel
theorem dX0_put_9 : decode cX0_put 9 = .ok (.if_icmp .ge 29, 3) := by decide +kernel
theorem dX0_put_12 : decode cX0_put 12 = .ok (.iload_n 2, 1) := by decide +kernel
theorem dX0_put_13 : decode cX0_put 13 = .ok (.ifCond .lt 25, 3) := by decide +kernel
theorem dX0_put_16 : decode cX0_put 16 = .ok (.iload_n 2, 1) := by decide +kernel
theorem dX0_put_17 : decode cX0_put 17 = .ok (.aload_n 0, 1) := by decide +kernel
theorem dX0_put_18 : decode cX0_put 18 = .ok (.getfield 15, 3) := by decide +kernel
theorem dX0_put_21 : decode cX0_put 21 = .ok (.if_icmp .ge 17, 3) := by decide +kernel
theorem dX0_put_24 : decode cX0_put 24 = .ok (.aload_n 0, 1) := by decide +kernel
theorem dX0_put_25 : decode cX0_put 25 = .ok (.getfield 24, 3) := by decide +kernel
theorem dX0_put_28 : decode cX0_put 28 = .ok (.iload_n 1, 1) := by decide +kernel
theorem dX0_put_29 : decode cX0_put 29 = .ok (.aload_n 0, 1) := by decide +kernel
theorem dX0_put_30 : decode cX0_put 30 = .ok (.getfield 15, 3) := by decide +kernel
theorem dX0_put_33 : decode cX0_put 33 = .ok (.imul, 1) := by decide +kernel
theorem dX0_put_34 : decode cX0_put 34 = .ok (.iload_n 2, 1) := by decide +kernel
theorem dX0_put_35 : decode cX0_put 35 = .ok (.iadd, 1) := by decide +kernel
theorem dX0_put_36 : decode cX0_put 36 = .ok (.iload_n 3, 1) := by decide +kernel
theorem dX0_put_37 : decode cX0_put 37 = .ok (.iastore, 1) := by decide +kernel
theorem dX0_put_38 : decode cX0_put 38 = .ok (.return_, 1) := by decide +kernel
theorem dX0_clearRow_0 : decode cX0_clearRow 0 = .ok (.iconst 0, 1) := by decide +kernel
theorem dX0_clearRow_1 : decode cX0_clearRow 1 = .ok (.istore_n 2, 1) := by decide +kernel
theorem dX0_clearRow_2 : decode cX0_clearRow 2 = .ok (.iload_n 2, 1) := by decide +kernel
theorem dX0_clearRow_3 : decode cX0_clearRow 3 = .ok (.aload_n 0, 1) := by decide +kernel
theorem dX0_clearRow_4 : decode cX0_clearRow 4 = .ok (.getfield 15, 3) := by decide +kernel
theorem dX0_clearRow_7 : decode cX0_clearRow 7 = .ok (.if_icmp .ge 17, 3) := by decide +kernel
theorem dX0_clearRow_10 : decode cX0_clearRow 10 = .ok (.aload_n 0, 1) := by decide +kernel
theorem dX0_clearRow_11 : decode cX0_clearRow 11 = .ok (.iload_n 1, 1) := by decide +kernel
theorem dX0_clearRow_12 : decode cX0_clearRow 12 = .ok (.iload_n 2, 1) := by decide +kernel
theorem dX0_clearRow_13 : decode cX0_clearRow 13 = .ok (.ldc 28, 2) := by decide +kernel
theorem dX0_clearRow_15 : decode cX0_clearRow 15 = .ok (.invokevirtual 35, 3) := by decide +kernel
theorem dX0_clearRow_18 : decode cX0_clearRow 18 = .ok (.iinc 2 1, 3) := by decide +kernel
theorem dX0_clearRow_21 : decode cX0_clearRow 21 = .ok (.goto (-19), 3) := by decide +kernel
theorem dX0_clearRow_24 : decode cX0_clearRow 24 = .ok (.return_, 1) := by decide +kernel
theorem dX0_lowerRow_0 : decode cX0_lowerRow 0 = .ok (.iload_n 1, 1) := by decide +kernel
theorem dX0_lowerRow_1 : decode cX0_lowerRow 1 = .ok (.ifCond .lt 36, 3) := by decide +kernel
theorem dX0_lowerRow_4 : decode cX0_lowerRow 4 = .ok (.iload_n 1, 1) := by decide +kernel
theorem dX0_lowerRow_5 : decode cX0_lowerRow 5 = .ok (.aload_n 0, 1) := by decide +kernel
theorem dX0_lowerRow_6 : decode cX0_lowerRow 6 = .ok (.getfield 9, 3) := by decide +kernel
theorem dX0_lowerRow_9 : decode cX0_lowerRow 9 = .ok (.if_icmp .ge 28, 3) := by decide +kernel
theorem dX0_lowerRow_12 : decode cX0_lowerRow 12 = .ok (.iload 4, 2) := by decide +kernel
theorem dX0_lowerRow_14 : decode cX0_lowerRow 14 = .ok (.ifCond .lt 23, 3) := by decide +kernel
theorem dX0_lowerRow_17 : decode cX0_lowerRow 17 = .ok (.iload 4, 2) := by decide +kernel
theorem dX0_lowerRow_19 : decode cX0_lowerRow 19 = .ok (.aload_n 3, 1) := by decide +kernel
theorem dX0_lowerRow_20 : decode cX0_lowerRow 20 = .ok (.getfield 9, 3) := by decide +kernel
theorem dX0_lowerRow_23 : decode cX0_lowerRow 23 = .ok (.if_icmp .ge 14, 3) := by decide +kernel
theorem dX0_lowerRow_26 : decode cX0_lowerRow 26 = .ok (.aload_n 0, 1) := by decide +kernel
theorem dX0_lowerRow_27 : decode cX0_lowerRow 27 = .ok (.getfield 15, 3) := by decide +kernel
theorem dX0_lowerRow_30 : decode cX0_lowerRow 30 = .ok (.aload_n 3, 1) := by decide +kernel
theorem dX0_lowerRow_31 : decode cX0_lowerRow 31 = .ok (.getfield 15, 3) := by decide +kernel
theorem dX0_lowerRow_34 : decode cX0_lowerRow 34 = .ok (.if_icmp .eq 4, 3) := by decide +kernel
theorem dX0_lowerRow_37 : decode cX0_lowerRow 37 = .ok (.return_, 1) := by decide +kernel
theorem dX0_lowerRow_38 : decode cX0_lowerRow 38 = .ok (.iload_n 1, 1) := by decide +kernel
theorem dX0_lowerRow_39 : decode cX0_lowerRow 39 = .ok (.aload_n 0, 1) := by decide +kernel
theorem dX0_lowerRow_40 : decode cX0_lowerRow 40 = .ok (.getfield 15, 3) := by decide +kernel
theorem dX0_lowerRow_43 : decode cX0_lowerRow 43 = .ok (.imul, 1) := by decide +kernel
theorem dX0_lowerRow_44 : decode cX0_lowerRow 44 = .ok (.istore 5, 2) := by decide +kernel
theorem dX0_lowerRow_46 : decode cX0_lowerRow 46 = .ok (.iload 4, 2) := by decide +kernel
theorem dX0_lowerRow_48 : decode cX0_lowerRow 48 = .ok (.aload_n 0, 1) := by decide +kernel
theorem dX0_lowerRow_49 : decode cX0_lowerRow 49 = .ok (.getfield 15, 3) := by decide +kernel
theorem dX0_lowerRow_52 : decode cX0_lowerRow 52 = .ok (.imul, 1) := by decide +kernel
theorem dX0_lowerRow_53 : decode cX0_lowerRow 53 = .ok (.istore 6, 2) := by decide +kernel
theorem dX0_lowerRow_55 : decode cX0_lowerRow 55 = .ok (.iconst 0, 1) := by decide +kernel
theorem dX0_lowerRow_56 : decode cX0_lowerRow 56 = .ok (.istore 7, 2) := by decide +kernel
theorem dX0_lowerRow_58 : decode cX0_lowerRow 58 = .ok (.iload 7, 2) := by decide +kernel
theorem dX0_lowerRow_60 : decode cX0_lowerRow 60 = .ok (.aload_n 0, 1) := by decide +kernel
theorem dX0_lowerRow_61 : decode cX0_lowerRow 61 = .ok (.getfield 15, 3) := by decide +kernel
theorem dX0_lowerRow_64 : decode cX0_lowerRow 64 = .ok (.if_icmp .ge 50, 3) := by decide +kernel
theorem dX0_lowerRow_67 : decode cX0_lowerRow 67 = .ok (.iload_n 2, 1) := by decide +kernel
theorem dX0_lowerRow_68 : decode cX0_lowerRow 68 = .ok (.aload_n 3, 1) := by decide +kernel
theorem dX0_lowerRow_69 : decode cX0_lowerRow 69 = .ok (.getfield 24, 3) := by decide +kernel
theorem dX0_lowerRow_72 : decode cX0_lowerRow 72 = .ok (.iload 6, 2) := by decide +kernel
theorem dX0_lowerRow_74 : decode cX0_lowerRow 74 = .ok (.iload 7, 2) := by decide +kernel
theorem dX0_lowerRow_76 : decode cX0_lowerRow 76 = .ok (.iadd, 1) := by decide +kernel
theorem dX0_lowerRow_77 : decode cX0_lowerRow 77 = .ok (.iaload, 1) := by decide +kernel
theorem dX0_lowerRow_78 : decode cX0_lowerRow 78 = .ok (.iadd, 1) := by decide +kernel
theorem dX0_lowerRow_79 : decode cX0_lowerRow 79 = .ok (.istore 8, 2) := by decide +kernel
theorem dX0_lowerRow_81 : decode cX0_lowerRow 81 = .ok (.iload 8, 2) := by decide +kernel
theorem dX0_lowerRow_83 : decode cX0_lowerRow 83 = .ok (.aload_n 0, 1) := by decide +kernel
theorem dX0_lowerRow_84 : decode cX0_lowerRow 84 = .ok (.getfield 24, 3) := by decide +kernel
theorem dX0_lowerRow_87 : decode cX0_lowerRow 87 = .ok (.iload 5, 2) := by decide +kernel
theorem dX0_lowerRow_89 : decode cX0_lowerRow 89 = .ok (.iload 7, 2) := by decide +kernel
theorem dX0_lowerRow_91 : decode cX0_lowerRow 91 = .ok (.iadd, 1) := by decide +kernel
theorem dX0_lowerRow_92 : decode cX0_lowerRow 92 = .ok (.iaload, 1) := by decide +kernel
theorem dX0_lowerRow_93 : decode cX0_lowerRow 93 = .ok (.if_icmp .ge 15, 3) := by decide +kernel
theorem dX0_lowerRow_96 : decode cX0_lowerRow 96 = .ok (.aload_n 0, 1) := by decide +kernel
theorem dX0_lowerRow_97 : decode cX0_lowerRow 97 = .ok (.getfield 24, 3) := by decide +kernel
theorem dX0_lowerRow_100 : decode cX0_lowerRow 100 = .ok (.iload 5, 2) := by decide +kernel
theorem dX0_lowerRow_102 : decode cX0_lowerRow 102 = .ok (.iload 7, 2) := by decide +kernel
theorem dX0_lowerRow_104 : decode cX0_lowerRow 104 = .ok (.iadd, 1) := by decide +kernel
theorem dX0_lowerRow_105 : decode cX0_lowerRow 105 = .ok (.iload 8, 2) := by decide +kernel
theorem dX0_lowerRow_107 : decode cX0_lowerRow 107 = .ok (.iastore, 1) := by decide +kernel
theorem dX0_lowerRow_108 : decode cX0_lowerRow 108 = .ok (.iinc 7 1, 3) := by decide +kernel
theorem dX0_lowerRow_111 : decode cX0_lowerRow 111 = .ok (.goto (-53), 3) := by decide +kernel
theorem dX0_lowerRow_114 : decode cX0_lowerRow 114 = .ok (.return_, 1) := by decide +kernel
theorem dX1_init_0 : decode cX1_init 0 = .ok (.aload_n 0, 1) := by decide +kernel
theorem dX1_init_1 : decode cX1_init 1 = .ok (.invokespecial 1, 3) := by decide +kernel
theorem dX1_init_4 : decode cX1_init 4 = .ok (.aload_n 0, 1) := by decide +kernel
theorem dX1_init_5 : decode cX1_init 5 = .ok (.iload_n 1, 1) := by decide +kernel
theorem dX1_init_6 : decode cX1_init 6 = .ok (.putfield 7, 3) := by decide +kernel
theorem dX1_init_9 : decode cX1_init 9 = .ok (.aload_n 0, 1) := by decide +kernel
theorem dX1_init_10 : decode cX1_init 10 = .ok (.aload_n 2, 1) := by decide +kernel
theorem dX1_init_11 : decode cX1_init 11 = .ok (.putfield 13, 3) := by decide +kernel
theorem dX1_init_14 : decode cX1_init 14 = .ok (.aload_n 0, 1) := by decide +kernel
theorem dX1_init_15 : decode cX1_init 15 = .ok (.iload_n 3, 1) := by decide +kernel
theorem dX1_init_16 : decode cX1_init 16 = .ok (.putfield 17, 3) := by decide +kernel
theorem dX1_init_19 : decode cX1_init 19 = .ok (.aload_n 0, 1) := by decide +kernel
theorem dX1_init_20 : decode cX1_init 20 = .ok (.iload 4, 2) := by decide +kernel
theorem dX1_init_22 : decode cX1_init 22 = .ok (.putfield 20, 3) := by decide +kernel
theorem dX1_init_25 : decode cX1_init 25 = .ok (.return_, 1) := by decide +kernel
theorem dX2_init_0 : decode cX2_init 0 = .ok (.aload_n 0, 1) := by decide +kernel
theorem dX2_init_1 : decode cX2_init 1 = .ok (.invokespecial 1, 3) := by decide +kernel
theorem dX2_init_4 : decode cX2_init 4 = .ok (.aload_n 0, 1) := by decide +kernel
theorem dX2_init_5 : decode cX2_init 5 = .ok (.aload_n 1, 1) := by decide +kernel
theorem dX2_init_6 : decode cX2_init 6 = .ok (.putfield 7, 3) := by decide +kernel
theorem dX2_init_9 : decode cX2_init 9 = .ok (.aload_n 0, 1) := by decide +kernel
theorem dX2_init_10 : decode cX2_init 10 = .ok (.iload_n 2, 1) := by decide +kernel
theorem dX2_init_11 : decode cX2_init 11 = .ok (.putfield 13, 3) := by decide +kernel
theorem dX2_init_14 : decode cX2_init 14 = .ok (.aload_n 0, 1) := by decide +kernel
theorem dX2_init_15 : decode cX2_init 15 = .ok (.iload_n 3, 1) := by decide +kernel
theorem dX2_init_16 : decode cX2_init 16 = .ok (.putfield 17, 3) := by decide +kernel
theorem dX2_init_19 : decode cX2_init 19 = .ok (.return_, 1) := by decide +kernel
theorem dX3_init_0 : decode cX3_init 0 = .ok (.aload_n 0, 1) := by decide +kernel
theorem dX3_init_1 : decode cX3_init 1 = .ok (.invokespecial 1, 3) := by decide +kernel
theorem dX3_init_4 : decode cX3_init 4 = .ok (.aload_n 0, 1) := by decide +kernel
theorem dX3_init_5 : decode cX3_init 5 = .ok (.iload_n 1, 1) := by decide +kernel
theorem dX3_init_6 : decode cX3_init 6 = .ok (.putfield 7, 3) := by decide +kernel
theorem dX3_init_9 : decode cX3_init 9 = .ok (.aload_n 0, 1) := by decide +kernel
theorem dX3_init_10 : decode cX3_init 10 = .ok (.iload_n 2, 1) := by decide +kernel
theorem dX3_init_11 : decode cX3_init 11 = .ok (.putfield 13, 3) := by decide +kernel
theorem dX3_init_14 : decode cX3_init 14 = .ok (.aload_n 0, 1) := by decide +kernel
theorem dX3_init_15 : decode cX3_init 15 = .ok (.iload_n 3, 1) := by decide +kernel
theorem dX3_init_16 : decode cX3_init 16 = .ok (.putfield 16, 3) := by decide +kernel
theorem dX3_init_19 : decode cX3_init 19 = .ok (.aload_n 0, 1) := by decide +kernel
theorem dX3_init_20 : decode cX3_init 20 = .ok (.iload 4, 2) := by decide +kernel
theorem dX3_init_22 : decode cX3_init 22 = .ok (.putfield 19, 3) := by decide +kernel
theorem dX3_init_25 : decode cX3_init 25 = .ok (.return_, 1) := by decide +kernel
theorem dX3_isForward_0 : decode cX3_isForward 0 = .ok (.aload_n 0, 1) := by decide +kernel
theorem dX3_isForward_1 : decode cX3_isForward 1 = .ok (.getfield 7, 3) := by decide +kernel
theorem dX3_isForward_4 : decode cX3_isForward 4 = .ok (.iconst 1, 1) := by decide +kernel
theorem dX3_isForward_5 : decode cX3_isForward 5 = .ok (.iand, 1) := by decide +kernel
theorem dX3_isForward_6 : decode cX3_isForward 6 = .ok (.ifCond .ne 7, 3) := by decide +kernel
theorem dX3_isForward_9 : decode cX3_isForward 9 = .ok (.iconst 1, 1) := by decide +kernel
theorem dX3_isForward_10 : decode cX3_isForward 10 = .ok (.goto 4, 3) := by decide +kernel
theorem dX3_isForward_13 : decode cX3_isForward 13 = .ok (.iconst 0, 1) := by decide +kernel
theorem dX3_isForward_14 : decode cX3_isForward 14 = .ok (.ireturn, 1) := by decide +kernel
theorem dX3_goesBy_0 : decode cX3_goesBy 0 = .ok (.aload_n 1, 1) := by decide +kernel
theorem dX3_goesBy_1 : decode cX3_goesBy 1 = .ok (.getfield 22, 3) := by decide +kernel
theorem dX3_goesBy_4 : decode cX3_goesBy 4 = .ok (.getfield 28, 3) := by decide +kernel
theorem dX3_goesBy_7 : decode cX3_goesBy 7 = .ok (.ifCond .eq 16, 3) := by decide +kernel
theorem dX3_goesBy_10 : decode cX3_goesBy 10 = .ok (.aload_n 1, 1) := by decide +kernel
theorem dX3_goesBy_11 : decode cX3_goesBy 11 = .ok (.getfield 34, 3) := by decide +kernel
theorem dX3_goesBy_14 : decode cX3_goesBy 14 = .ok (.aload_n 0, 1) := by decide +kernel
theorem dX3_goesBy_15 : decode cX3_goesBy 15 = .ok (.getfield 7, 3) := by decide +kernel
theorem dX3_goesBy_18 : decode cX3_goesBy 18 = .ok (.iconst 1, 1) := by decide +kernel
theorem dX3_goesBy_19 : decode cX3_goesBy 19 = .ok (.iand, 1) := by decide +kernel
theorem dX3_goesBy_20 : decode cX3_goesBy 20 = .ok (.if_icmp .ne 7, 3) := by decide +kernel
theorem dX3_goesBy_23 : decode cX3_goesBy 23 = .ok (.iconst 1, 1) := by decide +kernel
theorem dX3_goesBy_24 : decode cX3_goesBy 24 = .ok (.goto 4, 3) := by decide +kernel
theorem dX3_goesBy_27 : decode cX3_goesBy 27 = .ok (.iconst 0, 1) := by decide +kernel
theorem dX3_goesBy_28 : decode cX3_goesBy 28 = .ok (.istore_n 2, 1) := by decide +kernel
theorem dX3_goesBy_29 : decode cX3_goesBy 29 = .ok (.iload_n 2, 1) := by decide +kernel
theorem dX3_goesBy_30 : decode cX3_goesBy 30 = .ok (.ifCond .eq 23, 3) := by decide +kernel
theorem dX3_goesBy_33 : decode cX3_goesBy 33 = .ok (.aload_n 0, 1) := by decide +kernel
theorem dX3_goesBy_34 : decode cX3_goesBy 34 = .ok (.getfield 7, 3) := by decide +kernel
theorem dX3_goesBy_37 : decode cX3_goesBy 37 = .ok (.iconst 1, 1) := by decide +kernel
theorem dX3_goesBy_38 : decode cX3_goesBy 38 = .ok (.ishr, 1) := by decide +kernel
theorem dX3_goesBy_39 : decode cX3_goesBy 39 = .ok (.aload_n 1, 1) := by decide +kernel
theorem dX3_goesBy_40 : decode cX3_goesBy 40 = .ok (.getfield 22, 3) := by decide +kernel
theorem dX3_goesBy_43 : decode cX3_goesBy 43 = .ok (.getfield 37, 3) := by decide +kernel
theorem dX3_goesBy_46 : decode cX3_goesBy 46 = .ok (.if_icmp .ne 7, 3) := by decide +kernel
theorem dX3_goesBy_49 : decode cX3_goesBy 49 = .ok (.iconst 1, 1) := by decide +kernel
theorem dX3_goesBy_50 : decode cX3_goesBy 50 = .ok (.goto 4, 3) := by decide +kernel
theorem dX3_goesBy_53 : decode cX3_goesBy 53 = .ok (.iconst 0, 1) := by decide +kernel
theorem dX3_goesBy_54 : decode cX3_goesBy 54 = .ok (.ireturn, 1) := by decide +kernel
theorem dX3_lengthTo_0 : decode cX3_lengthTo 0 = .ok (.aload_n 0, 1) := by decide +kernel
theorem dX3_lengthTo_1 : decode cX3_lengthTo 1 = .ok (.invokevirtual 38, 3) := by decide +kernel
theorem dX3_lengthTo_4 : decode cX3_lengthTo 4 = .ok (.ifCond .eq 10, 3) := by decide +kernel
theorem dX3_lengthTo_7 : decode cX3_lengthTo 7 = .ok (.aload_n 1, 1) := by decide +kernel
theorem dX3_lengthTo_8 : decode cX3_lengthTo 8 = .ok (.getfield 42, 3) := by decide +kernel
theorem dX3_lengthTo_11 : decode cX3_lengthTo 11 = .ok (.goto 12, 3) := by decide +kernel
theorem dX3_lengthTo_14 : decode cX3_lengthTo 14 = .ok (.aload_n 0, 1) := by decide +kernel
theorem dX3_lengthTo_15 : decode cX3_lengthTo 15 = .ok (.getfield 19, 3) := by decide +kernel
theorem dX3_lengthTo_18 : decode cX3_lengthTo 18 = .ok (.aload_n 1, 1) := by decide +kernel
theorem dX3_lengthTo_19 : decode cX3_lengthTo 19 = .ok (.getfield 42, 3) := by decide +kernel
theorem dX3_lengthTo_22 : decode cX3_lengthTo 22 = .ok (.isub, 1) := by decide +kernel
theorem dX3_lengthTo_23 : decode cX3_lengthTo 23 = .ok (.ireturn, 1) := by decide +kernel
theorem dX4_init_0 : decode cX4_init 0 = .ok (.aload_n 0, 1) := by decide +kernel
theorem dX4_init_1 : decode cX4_init 1 = .ok (.invokespecial 1, 3) := by decide +kernel
theorem dX4_init_4 : decode cX4_init 4 = .ok (.aload_n 0, 1) := by decide +kernel
theorem dX4_init_5 : decode cX4_init 5 = .ok (.iload_n 1, 1) := by decide +kernel
theorem dX4_init_6 : decode cX4_init 6 = .ok (.putfield 7, 3) := by decide +kernel
theorem dX4_init_9 : decode cX4_init 9 = .ok (.return_, 1) := by decide +kernel
theorem dX5_init_0 : decode cX5_init 0 = .ok (.aload_n 0, 1) := by decide +kernel
theorem dX5_init_1 : decode cX5_init 1 = .ok (.invokespecial 3, 3) := by decide +kernel
theorem dX5_init_4 : decode cX5_init 4 = .ok (.aload_n 0, 1) := by decide +kernel
theorem dX5_init_5 : decode cX5_init 5 = .ok (.iload_n 1, 1) := by decide +kernel
theorem dX5_init_6 : decode cX5_init 6 = .ok (.putfield 9, 3) := by decide +kernel
theorem dX5_init_9 : decode cX5_init 9 = .ok (.aload_n 0, 1) := by decide +kernel
theorem dX5_init_10 : decode cX5_init 10 = .ok (.iload_n 2, 1) := by decide +kernel
theorem dX5_init_11 : decode cX5_init 11 = .ok (.putfield 15, 3) := by decide +kernel
theorem dX5_init_14 : decode cX5_init 14 = .ok (.aload_n 0, 1) := by decide +kernel
theorem dX5_init_15 : decode cX5_init 15 = .ok (.iload 4, 2) := by decide +kernel
theorem dX5_init_17 : decode cX5_init 17 = .ok (.putfield 18, 3) := by decide +kernel
theorem dX5_init_20 : decode cX5_init 20 = .ok (.aload_n 0, 1) := by decide +kernel
theorem dX5_init_21 : decode cX5_init 21 = .ok (.iload 5, 2) := by decide +kernel
theorem dX5_init_23 : decode cX5_init 23 = .ok (.putfield 21, 3) := by decide +kernel
theorem dX5_init_26 : decode cX5_init 26 = .ok (.aload_n 0, 1) := by decide +kernel
theorem dX5_init_27 : decode cX5_init 27 = .ok (.new 25, 3) := by decide +kernel
theorem dX5_init_30 : decode cX5_init 30 = .ok (.dup, 1) := by decide +kernel
theorem dX5_init_31 : decode cX5_init 31 = .ok (.iconst 2, 1) := by decide +kernel
theorem dX5_init_32 : decode cX5_init 32 = .ok (.iload_n 1, 1) := by decide +kernel
theorem dX5_init_33 : decode cX5_init 33 = .ok (.imul, 1) := by decide +kernel
theorem dX5_init_34 : decode cX5_init 34 = .ok (.iload_n 2, 1) := by decide +kernel
theorem dX5_init_35 : decode cX5_init 35 = .ok (.iload_n 3, 1) := by decide +kernel
theorem dX5_init_36 : decode cX5_init 36 = .ok (.iload 4, 2) := by decide +kernel
theorem dX5_init_38 : decode cX5_init 38 = .ok (.invokespecial 27, 3) := by decide +kernel
theorem dX5_init_41 : decode cX5_init 41 = .ok (.putfield 30, 3) := by decide +kernel
theorem dX5_init_44 : decode cX5_init 44 = .ok (.aload_n 0, 1) := by decide +kernel
theorem dX5_init_45 : decode cX5_init 45 = .ok (.new 25, 3) := by decide +kernel
theorem dX5_init_48 : decode cX5_init 48 = .ok (.dup, 1) := by decide +kernel
theorem dX5_init_49 : decode cX5_init 49 = .ok (.iconst 2, 1) := by decide +kernel
theorem dX5_init_50 : decode cX5_init 50 = .ok (.iload_n 1, 1) := by decide +kernel
theorem dX5_init_51 : decode cX5_init 51 = .ok (.imul, 1) := by decide +kernel
theorem dX5_init_52 : decode cX5_init 52 = .ok (.iconst 1, 1) := by decide +kernel
theorem dX5_init_53 : decode cX5_init 53 = .ok (.iadd, 1) := by decide +kernel
theorem dX5_init_54 : decode cX5_init 54 = .ok (.iload_n 3, 1) := by decide +kernel
theorem dX5_init_55 : decode cX5_init 55 = .ok (.iload_n 2, 1) := by decide +kernel
theorem dX5_init_56 : decode cX5_init 56 = .ok (.iload 4, 2) := by decide +kernel
theorem dX5_init_58 : decode cX5_init 58 = .ok (.invokespecial 27, 3) := by decide +kernel
theorem dX5_init_61 : decode cX5_init 61 = .ok (.putfield 34, 3) := by decide +kernel
theorem dX5_init_64 : decode cX5_init 64 = .ok (.aload_n 0, 1) := by decide +kernel
theorem dX5_init_65 : decode cX5_init 65 = .ok (.iconst (-1), 1) := by decide +kernel
theorem dX5_init_66 : decode cX5_init 66 = .ok (.putfield 37, 3) := by decide +kernel
theorem dX5_init_69 : decode cX5_init 69 = .ok (.return_, 1) := by decide +kernel
theorem dX6_init_0 : decode cX6_init 0 = .ok (.aload_n 0, 1) := by decide +kernel
theorem dX6_init_1 : decode cX6_init 1 = .ok (.invokespecial 3, 3) := by decide +kernel
theorem dX6_init_4 : decode cX6_init 4 = .ok (.aload_n 0, 1) := by decide +kernel
theorem dX6_init_5 : decode cX6_init 5 = .ok (.aload_n 1, 1) := by decide +kernel
theorem dX6_init_6 : decode cX6_init 6 = .ok (.putfield 9, 3) := by decide +kernel
theorem dX6_init_9 : decode cX6_init 9 = .ok (.aload_n 0, 1) := by decide +kernel
theorem dX6_init_10 : decode cX6_init 10 = .ok (.new 15, 3) := by decide +kernel
theorem dX6_init_13 : decode cX6_init 13 = .ok (.dup, 1) := by decide +kernel
theorem dX6_init_14 : decode cX6_init 14 = .ok (.invokespecial 17, 3) := by decide +kernel
theorem dX6_init_17 : decode cX6_init 17 = .ok (.putfield 18, 3) := by decide +kernel
theorem dX6_init_20 : decode cX6_init 20 = .ok (.aload_n 0, 1) := by decide +kernel
theorem dX6_init_21 : decode cX6_init 21 = .ok (.new 22, 3) := by decide +kernel
theorem dX6_init_24 : decode cX6_init 24 = .ok (.dup, 1) := by decide +kernel
theorem dX6_init_25 : decode cX6_init 25 = .ok (.sipush 256, 3) := by decide +kernel
theorem dX6_init_28 : decode cX6_init 28 = .ok (.bipush 10, 2) := by decide +kernel
theorem dX6_init_30 : decode cX6_init 30 = .ok (.invokespecial 24, 3) := by decide +kernel
theorem dX6_init_33 : decode cX6_init 33 = .ok (.putfield 27, 3) := by decide +kernel
theorem dX6_init_36 : decode cX6_init 36 = .ok (.aload_n 0, 1) := by decide +kernel
theorem dX6_init_37 : decode cX6_init 37 = .ok (.new 15, 3) := by decide +kernel
theorem dX6_init_40 : decode cX6_init 40 = .ok (.dup, 1) := by decide +kernel
theorem dX6_init_41 : decode cX6_init 41 = .ok (.invokespecial 17, 3) := by decide +kernel
theorem dX6_init_44 : decode cX6_init 44 = .ok (.putfield 31, 3) := by decide +kernel
theorem dX6_init_47 : decode cX6_init 47 = .ok (.aload_n 0, 1) := by decide +kernel
theorem dX6_init_48 : decode cX6_init 48 = .ok (.bipush 90, 2) := by decide +kernel
theorem dX6_init_50 : decode cX6_init 50 = .ok (.newarray .int, 2) := by decide +kernel
theorem dX6_init_52 : decode cX6_init 52 = .ok (.putfield 34, 3) := by decide +kernel
theorem dX6_init_55 : decode cX6_init 55 = .ok (.return_, 1) := by decide +kernel
theorem dX6_clear_0 : decode cX6_clear 0 = .ok (.aload_n 0, 1) := by decide +kernel
theorem dX6_clear_1 : decode cX6_clear 1 = .ok (.getfield 18, 3) := by decide +kernel
theorem dX6_clear_4 : decode cX6_clear 4 = .ok (.invokevirtual 38, 3) := by decide +kernel
theorem dX6_clear_7 : decode cX6_clear 7 = .ok (.aload_n 0, 1) := by decide +kernel
theorem dX6_clear_8 : decode cX6_clear 8 = .ok (.iconst 0, 1) := by decide +kernel
theorem dX6_clear_9 : decode cX6_clear 9 = .ok (.putfield 41, 3) := by decide +kernel
theorem dX6_clear_12 : decode cX6_clear 12 = .ok (.return_, 1) := by decide +kernel
theorem dX6_addNeeds_0 : decode cX6_addNeeds 0 = .ok (.iload_n 2, 1) := by decide +kernel
theorem dX6_addNeeds_1 : decode cX6_addNeeds 1 = .ok (.iconst 1, 1) := by decide +kernel
theorem dX6_addNeeds_2 : decode cX6_addNeeds 2 = .ok (.iand, 1) := by decide +kernel
theorem dX6_addNeeds_3 : decode cX6_addNeeds 3 = .ok (.ifCond .eq 7, 3) := by decide +kernel
theorem dX6_addNeeds_6 : decode cX6_addNeeds 6 = .ok (.iconst 1, 1) := by decide +kernel
theorem dX6_addNeeds_7 : decode cX6_addNeeds 7 = .ok (.goto 4, 3) := by decide +kernel
theorem dX6_addNeeds_10 : decode cX6_addNeeds 10 = .ok (.iconst 0, 1) := by decide +kernel
theorem dX6_addNeeds_11 : decode cX6_addNeeds 11 = .ok (.istore_n 3, 1) := by decide +kernel
theorem dX6_addNeeds_12 : decode cX6_addNeeds 12 = .ok (.iload_n 2, 1) := by decide +kernel
theorem dX6_addNeeds_13 : decode cX6_addNeeds 13 = .ok (.iconst 2, 1) := by decide +kernel
theorem dX6_addNeeds_14 : decode cX6_addNeeds 14 = .ok (.iand, 1) := by decide +kernel
theorem dX6_addNeeds_15 : decode cX6_addNeeds 15 = .ok (.ifCond .eq 7, 3) := by decide +kernel
theorem dX6_addNeeds_18 : decode cX6_addNeeds 18 = .ok (.iconst 1, 1) := by decide +kernel
theorem dX6_addNeeds_19 : decode cX6_addNeeds 19 = .ok (.goto 4, 3) := by decide +kernel
theorem dX6_addNeeds_22 : decode cX6_addNeeds 22 = .ok (.iconst 0, 1) := by decide +kernel
theorem dX6_addNeeds_23 : decode cX6_addNeeds 23 = .ok (.istore 4, 2) := by decide +kernel
theorem dX6_addNeeds_25 : decode cX6_addNeeds 25 = .ok (.aload_n 1, 1) := by decide +kernel
theorem dX6_addNeeds_26 : decode cX6_addNeeds 26 = .ok (.getfield 45, 3) := by decide +kernel
theorem dX6_addNeeds_29 : decode cX6_addNeeds 29 = .ok (.ifCond .ne 33, 3) := by decide +kernel
theorem dX6_addNeeds_32 : decode cX6_addNeeds 32 = .ok (.iload_n 2, 1) := by decide +kernel
theorem dX6_addNeeds_33 : decode cX6_addNeeds 33 = .ok (.ifCond .eq 29, 3) := by decide +kernel
theorem dX6_addNeeds_36 : decode cX6_addNeeds 36 = .ok (.aload_n 0, 1) := by decide +kernel
theorem dX6_addNeeds_37 : decode cX6_addNeeds 37 = .ok (.aload_n 1, 1) := by decide +kernel
theorem dX6_addNeeds_38 : decode cX6_addNeeds 38 = .ok (.getfield 51, 3) := by decide +kernel
theorem dX6_addNeeds_41 : decode cX6_addNeeds 41 = .ok (.invokevirtual 55, 3) := by decide +kernel
theorem dX6_addNeeds_44 : decode cX6_addNeeds 44 = .ok (.aload_n 0, 1) := by decide +kernel
theorem dX6_addNeeds_45 : decode cX6_addNeeds 45 = .ok (.aload_n 1, 1) := by decide +kernel
theorem dX6_addNeeds_46 : decode cX6_addNeeds 46 = .ok (.getfield 59, 3) := by decide +kernel
theorem dX6_addNeeds_49 : decode cX6_addNeeds 49 = .ok (.invokevirtual 55, 3) := by decide +kernel
theorem dX6_addNeeds_52 : decode cX6_addNeeds 52 = .ok (.aload_n 0, 1) := by decide +kernel
theorem dX6_addNeeds_53 : decode cX6_addNeeds 53 = .ok (.dup, 1) := by decide +kernel
theorem dX6_addNeeds_54 : decode cX6_addNeeds 54 = .ok (.getfield 41, 3) := by decide +kernel
theorem dX6_addNeeds_57 : decode cX6_addNeeds 57 = .ok (.iconst 1, 1) := by decide +kernel
theorem dX6_addNeeds_58 : decode cX6_addNeeds 58 = .ok (.iadd, 1) := by decide +kernel
theorem dX6_addNeeds_59 : decode cX6_addNeeds 59 = .ok (.putfield 41, 3) := by decide +kernel
theorem dX6_addNeeds_62 : decode cX6_addNeeds 62 = .ok (.aload_n 1, 1) := by decide +kernel
theorem dX6_addNeeds_63 : decode cX6_addNeeds 63 = .ok (.getfield 45, 3) := by decide +kernel
theorem dX6_addNeeds_66 : decode cX6_addNeeds 66 = .ok (.ifCond .eq 25, 3) := by decide +kernel
theorem dX6_addNeeds_69 : decode cX6_addNeeds 69 = .ok (.iload_n 3, 1) := by decide +kernel
theorem dX6_addNeeds_70 : decode cX6_addNeeds 70 = .ok (.ifCond .eq 21, 3) := by decide +kernel
theorem dX6_addNeeds_73 : decode cX6_addNeeds 73 = .ok (.aload_n 0, 1) := by decide +kernel
theorem dX6_addNeeds_74 : decode cX6_addNeeds 74 = .ok (.aload_n 1, 1) := by decide +kernel
theorem dX6_addNeeds_75 : decode cX6_addNeeds 75 = .ok (.getfield 51, 3) := by decide +kernel
theorem dX6_addNeeds_78 : decode cX6_addNeeds 78 = .ok (.invokevirtual 55, 3) := by decide +kernel
theorem dX6_addNeeds_81 : decode cX6_addNeeds 81 = .ok (.aload_n 0, 1) := by decide +kernel
theorem dX6_addNeeds_82 : decode cX6_addNeeds 82 = .ok (.dup, 1) := by decide +kernel
theorem dX6_addNeeds_83 : decode cX6_addNeeds 83 = .ok (.getfield 41, 3) := by decide +kernel
theorem dX6_addNeeds_86 : decode cX6_addNeeds 86 = .ok (.iconst 1, 1) := by decide +kernel
theorem dX6_addNeeds_87 : decode cX6_addNeeds 87 = .ok (.iadd, 1) := by decide +kernel
theorem dX6_addNeeds_88 : decode cX6_addNeeds 88 = .ok (.putfield 41, 3) := by decide +kernel
theorem dX6_addNeeds_91 : decode cX6_addNeeds 91 = .ok (.aload_n 1, 1) := by decide +kernel
theorem dX6_addNeeds_92 : decode cX6_addNeeds 92 = .ok (.getfield 45, 3) := by decide +kernel
theorem dX6_addNeeds_95 : decode cX6_addNeeds 95 = .ok (.ifCond .eq 26, 3) := by decide +kernel
theorem dX6_addNeeds_98 : decode cX6_addNeeds 98 = .ok (.iload 4, 2) := by decide +kernel
theorem dX6_addNeeds_100 : decode cX6_addNeeds 100 = .ok (.ifCond .eq 21, 3) := by decide +kernel
theorem dX6_addNeeds_103 : decode cX6_addNeeds 103 = .ok (.aload_n 0, 1) := by decide +kernel
theorem dX6_addNeeds_104 : decode cX6_addNeeds 104 = .ok (.aload_n 1, 1) := by decide +kernel
theorem dX6_addNeeds_105 : decode cX6_addNeeds 105 = .ok (.getfield 59, 3) := by decide +kernel
theorem dX6_addNeeds_108 : decode cX6_addNeeds 108 = .ok (.invokevirtual 55, 3) := by decide +kernel
theorem dX6_addNeeds_111 : decode cX6_addNeeds 111 = .ok (.aload_n 0, 1) := by decide +kernel
theorem dX6_addNeeds_112 : decode cX6_addNeeds 112 = .ok (.dup, 1) := by decide +kernel
theorem dX6_addNeeds_113 : decode cX6_addNeeds 113 = .ok (.getfield 41, 3) := by decide +kernel
theorem dX6_addNeeds_116 : decode cX6_addNeeds 116 = .ok (.iconst 1, 1) := by decide +kernel
theorem dX6_addNeeds_117 : decode cX6_addNeeds 117 = .ok (.iadd, 1) := by decide +kernel
theorem dX6_addNeeds_118 : decode cX6_addNeeds 118 = .ok (.putfield 41, 3) := by decide +kernel
theorem dX6_addNeeds_121 : decode cX6_addNeeds 121 = .ok (.return_, 1) := by decide +kernel
theorem dX6_addChoice_0 : decode cX6_addChoice 0 = .ok (.aload_n 1, 1) := by decide +kernel
theorem dX6_addChoice_1 : decode cX6_addChoice 1 = .ok (.iconst 1, 1) := by decide +kernel
theorem dX6_addChoice_2 : decode cX6_addChoice 2 = .ok (.aload_n 0, 1) := by decide +kernel
theorem dX6_addChoice_3 : decode cX6_addChoice 3 = .ok (.getfield 41, 3) := by decide +kernel
theorem dX6_addChoice_6 : decode cX6_addChoice 6 = .ok (.ishl, 1) := by decide +kernel
theorem dX6_addChoice_7 : decode cX6_addChoice 7 = .ok (.putfield 62, 3) := by decide +kernel
theorem dX6_addChoice_10 : decode cX6_addChoice 10 = .ok (.aload_n 0, 1) := by decide +kernel
theorem dX6_addChoice_11 : decode cX6_addChoice 11 = .ok (.getfield 18, 3) := by decide +kernel
theorem dX6_addChoice_14 : decode cX6_addChoice 14 = .ok (.aload_n 1, 1) := by decide +kernel
theorem dX6_addChoice_15 : decode cX6_addChoice 15 = .ok (.invokevirtual 67, 3) := by decide +kernel
theorem dX6_addChoice_18 : decode cX6_addChoice 18 = .ok (.pop, 1) := by decide +kernel
theorem dX6_addChoice_19 : decode cX6_addChoice 19 = .ok (.return_, 1) := by decide +kernel
theorem dX6_allNeeds_0 : decode cX6_allNeeds 0 = .ok (.aload_n 0, 1) := by decide +kernel
theorem dX6_allNeeds_1 : decode cX6_allNeeds 1 = .ok (.getfield 41, 3) := by decide +kernel
theorem dX6_allNeeds_4 : decode cX6_allNeeds 4 = .ok (.bipush 8, 2) := by decide +kernel
theorem dX6_allNeeds_6 : decode cX6_allNeeds 6 = .ok (.if_icmp .le 7, 3) := by decide +kernel
theorem dX6_allNeeds_9 : decode cX6_allNeeds 9 = .ok (.iconst 0, 1) := by decide +kernel
theorem dX6_allNeeds_10 : decode cX6_allNeeds 10 = .ok (.goto 11, 3) := by decide +kernel
theorem dX6_allNeeds_13 : decode cX6_allNeeds 13 = .ok (.iconst 1, 1) := by decide +kernel
theorem dX6_allNeeds_14 : decode cX6_allNeeds 14 = .ok (.aload_n 0, 1) := by decide +kernel
theorem dX6_allNeeds_15 : decode cX6_allNeeds 15 = .ok (.getfield 41, 3) := by decide +kernel
theorem dX6_allNeeds_18 : decode cX6_allNeeds 18 = .ok (.ishl, 1) := by decide +kernel
theorem dX6_allNeeds_19 : decode cX6_allNeeds 19 = .ok (.iconst 1, 1) := by decide +kernel
theorem dX6_allNeeds_20 : decode cX6_allNeeds 20 = .ok (.isub, 1) := by decide +kernel
theorem dX6_allNeeds_21 : decode cX6_allNeeds 21 = .ok (.ireturn, 1) := by decide +kernel
theorem dX6_isPossible_0 : decode cX6_isPossible 0 = .ok (.iconst 0, 1) := by decide +kernel
theorem dX6_isPossible_1 : decode cX6_isPossible 1 = .ok (.istore_n 1, 1) := by decide +kernel
theorem dX6_isPossible_2 : decode cX6_isPossible 2 = .ok (.iload_n 1, 1) := by decide +kernel
theorem dX6_isPossible_3 : decode cX6_isPossible 3 = .ok (.aload_n 0, 1) := by decide +kernel
theorem dX6_isPossible_4 : decode cX6_isPossible 4 = .ok (.getfield 18, 3) := by decide +kernel
theorem dX6_isPossible_7 : decode cX6_isPossible 7 = .ok (.invokevirtual 71, 3) := by decide +kernel
theorem dX6_isPossible_10 : decode cX6_isPossible 10 = .ok (.if_icmp .ge 41, 3) := by decide +kernel
theorem dX6_isPossible_13 : decode cX6_isPossible 13 = .ok (.aload_n 0, 1) := by decide +kernel
theorem dX6_isPossible_14 : decode cX6_isPossible 14 = .ok (.getfield 9, 3) := by decide +kernel
theorem dX6_isPossible_17 : decode cX6_isPossible 17 = .ok (.getfield 75, 3) := by decide +kernel
theorem dX6_isPossible_20 : decode cX6_isPossible 20 = .ok (.iconst 0, 1) := by decide +kernel
theorem dX6_isPossible_21 : decode cX6_isPossible 21 = .ok (.aload_n 0, 1) := by decide +kernel
theorem dX6_isPossible_22 : decode cX6_isPossible 22 = .ok (.getfield 18, 3) := by decide +kernel
theorem dX6_isPossible_25 : decode cX6_isPossible 25 = .ok (.iload_n 1, 1) := by decide +kernel
theorem dX6_isPossible_26 : decode cX6_isPossible 26 = .ok (.invokevirtual 80, 3) := by decide +kernel
theorem dX6_isPossible_29 : decode cX6_isPossible 29 = .ok (.checkcast 63, 3) := by decide +kernel
theorem dX6_isPossible_32 : decode cX6_isPossible 32 = .ok (.getfield 84, 3) := by decide +kernel
theorem dX6_isPossible_35 : decode cX6_isPossible 35 = .ok (.invokevirtual 87, 3) := by decide +kernel
theorem dX6_isPossible_38 : decode cX6_isPossible 38 = .ok (.ldc 91, 2) := by decide +kernel
theorem dX6_isPossible_40 : decode cX6_isPossible 40 = .ok (.if_icmp .lt 5, 3) := by decide +kernel
theorem dX6_isPossible_43 : decode cX6_isPossible 43 = .ok (.iconst 0, 1) := by decide +kernel
theorem dX6_isPossible_44 : decode cX6_isPossible 44 = .ok (.ireturn, 1) := by decide +kernel
theorem dX6_isPossible_45 : decode cX6_isPossible 45 = .ok (.iinc 1 1, 3) := by decide +kernel
theorem dX6_isPossible_48 : decode cX6_isPossible 48 = .ok (.goto (-46), 3) := by decide +kernel
theorem dX6_isPossible_51 : decode cX6_isPossible 51 = .ok (.aload_n 0, 1) := by decide +kernel
theorem dX6_isPossible_52 : decode cX6_isPossible 52 = .ok (.getfield 41, 3) := by decide +kernel
theorem dX6_isPossible_55 : decode cX6_isPossible 55 = .ok (.bipush 8, 2) := by decide +kernel
theorem dX6_isPossible_57 : decode cX6_isPossible 57 = .ok (.if_icmp .gt 7, 3) := by decide +kernel
theorem dX6_isPossible_60 : decode cX6_isPossible 60 = .ok (.iconst 1, 1) := by decide +kernel
theorem dX6_isPossible_61 : decode cX6_isPossible 61 = .ok (.goto 4, 3) := by decide +kernel
theorem dX6_isPossible_64 : decode cX6_isPossible 64 = .ok (.iconst 0, 1) := by decide +kernel
theorem dX6_isPossible_65 : decode cX6_isPossible 65 = .ok (.ireturn, 1) := by decide +kernel
theorem dX6_leastLength_0 : decode cX6_leastLength 0 = .ok (.aload_n 0, 1) := by decide +kernel
theorem dX6_leastLength_1 : decode cX6_leastLength 1 = .ok (.getfield 27, 3) := by decide +kernel
theorem dX6_leastLength_4 : decode cX6_leastLength 4 = .ok (.iconst 0, 1) := by decide +kernel
theorem dX6_leastLength_5 : decode cX6_leastLength 5 = .ok (.invokevirtual 92, 3) := by decide +kernel
theorem dX6_leastLength_8 : decode cX6_leastLength 8 = .ok (.aload_n 0, 1) := by decide +kernel
theorem dX6_leastLength_9 : decode cX6_leastLength 9 = .ok (.getfield 27, 3) := by decide +kernel
theorem dX6_leastLength_12 : decode cX6_leastLength 12 = .ok (.iconst 0, 1) := by decide +kernel
theorem dX6_leastLength_13 : decode cX6_leastLength 13 = .ok (.iconst 0, 1) := by decide +kernel
theorem dX6_leastLength_14 : decode cX6_leastLength 14 = .ok (.aload_n 0, 1) := by decide +kernel
theorem dX6_leastLength_15 : decode cX6_leastLength 15 = .ok (.getfield 9, 3) := by decide +kernel
theorem dX6_leastLength_18 : decode cX6_leastLength 18 = .ok (.getfield 75, 3) := by decide +kernel
theorem dX6_leastLength_21 : decode cX6_leastLength 21 = .ok (.iconst 0, 1) := by decide +kernel
theorem dX6_leastLength_22 : decode cX6_leastLength 22 = .ok (.invokevirtual 96, 3) := by decide +kernel
theorem dX6_leastLength_25 : decode cX6_leastLength 25 = .ok (.iconst 1, 1) := by decide +kernel
theorem dX6_leastLength_26 : decode cX6_leastLength 26 = .ok (.istore_n 1, 1) := by decide +kernel
theorem dX6_leastLength_27 : decode cX6_leastLength 27 = .ok (.iload_n 1, 1) := by decide +kernel
theorem dX6_leastLength_28 : decode cX6_leastLength 28 = .ok (.aload_n 0, 1) := by decide +kernel
theorem dX6_leastLength_29 : decode cX6_leastLength 29 = .ok (.invokevirtual 100, 3) := by decide +kernel
theorem dX6_leastLength_32 : decode cX6_leastLength 32 = .ok (.if_icmp .gt 82, 3) := by decide +kernel
theorem dX6_leastLength_35 : decode cX6_leastLength 35 = .ok (.aload_n 0, 1) := by decide +kernel
theorem dX6_leastLength_36 : decode cX6_leastLength 36 = .ok (.getfield 27, 3) := by decide +kernel
theorem dX6_leastLength_39 : decode cX6_leastLength 39 = .ok (.iload_n 1, 1) := by decide +kernel
theorem dX6_leastLength_40 : decode cX6_leastLength 40 = .ok (.invokevirtual 92, 3) := by decide +kernel
theorem dX6_leastLength_43 : decode cX6_leastLength 43 = .ok (.iconst 0, 1) := by decide +kernel
theorem dX6_leastLength_44 : decode cX6_leastLength 44 = .ok (.istore_n 2, 1) := by decide +kernel
theorem dX6_leastLength_45 : decode cX6_leastLength 45 = .ok (.iload_n 2, 1) := by decide +kernel
theorem dX6_leastLength_46 : decode cX6_leastLength 46 = .ok (.aload_n 0, 1) := by decide +kernel
theorem dX6_leastLength_47 : decode cX6_leastLength 47 = .ok (.getfield 18, 3) := by decide +kernel
theorem dX6_leastLength_50 : decode cX6_leastLength 50 = .ok (.invokevirtual 71, 3) := by decide +kernel
theorem dX6_leastLength_53 : decode cX6_leastLength 53 = .ok (.if_icmp .ge 55, 3) := by decide +kernel
theorem dX6_leastLength_56 : decode cX6_leastLength 56 = .ok (.aload_n 0, 1) := by decide +kernel
theorem dX6_leastLength_57 : decode cX6_leastLength 57 = .ok (.getfield 18, 3) := by decide +kernel
theorem dX6_leastLength_60 : decode cX6_leastLength 60 = .ok (.iload_n 2, 1) := by decide +kernel
theorem dX6_leastLength_61 : decode cX6_leastLength 61 = .ok (.invokevirtual 80, 3) := by decide +kernel
theorem dX6_leastLength_64 : decode cX6_leastLength 64 = .ok (.checkcast 63, 3) := by decide +kernel
theorem dX6_leastLength_67 : decode cX6_leastLength 67 = .ok (.astore_n 3, 1) := by decide +kernel
theorem dX6_leastLength_68 : decode cX6_leastLength 68 = .ok (.iload_n 1, 1) := by decide +kernel
theorem dX6_leastLength_69 : decode cX6_leastLength 69 = .ok (.aload_n 3, 1) := by decide +kernel
theorem dX6_leastLength_70 : decode cX6_leastLength 70 = .ok (.getfield 62, 3) := by decide +kernel
theorem dX6_leastLength_73 : decode cX6_leastLength 73 = .ok (.iand, 1) := by decide +kernel
theorem dX6_leastLength_74 : decode cX6_leastLength 74 = .ok (.ifCond .eq 28, 3) := by decide +kernel
theorem dX6_leastLength_77 : decode cX6_leastLength 77 = .ok (.aload_n 0, 1) := by decide +kernel
theorem dX6_leastLength_78 : decode cX6_leastLength 78 = .ok (.getfield 27, 3) := by decide +kernel
theorem dX6_leastLength_81 : decode cX6_leastLength 81 = .ok (.iload_n 1, 1) := by decide +kernel
theorem dX6_leastLength_82 : decode cX6_leastLength 82 = .ok (.aload_n 0, 1) := by decide +kernel
theorem dX6_leastLength_83 : decode cX6_leastLength 83 = .ok (.aload_n 3, 1) := by decide +kernel
theorem dX6_leastLength_84 : decode cX6_leastLength 84 = .ok (.iload_n 1, 1) := by decide +kernel
theorem dX6_leastLength_85 : decode cX6_leastLength 85 = .ok (.invokevirtual 103, 3) := by decide +kernel
theorem dX6_leastLength_88 : decode cX6_leastLength 88 = .ok (.aload_n 0, 1) := by decide +kernel
theorem dX6_leastLength_89 : decode cX6_leastLength 89 = .ok (.getfield 9, 3) := by decide +kernel
theorem dX6_leastLength_92 : decode cX6_leastLength 92 = .ok (.getfield 75, 3) := by decide +kernel
theorem dX6_leastLength_95 : decode cX6_leastLength 95 = .ok (.aload_n 3, 1) := by decide +kernel
theorem dX6_leastLength_96 : decode cX6_leastLength 96 = .ok (.getfield 84, 3) := by decide +kernel
theorem dX6_leastLength_99 : decode cX6_leastLength 99 = .ok (.invokevirtual 96, 3) := by decide +kernel
theorem dX6_leastLength_102 : decode cX6_leastLength 102 = .ok (.iinc 2 1, 3) := by decide +kernel
theorem dX6_leastLength_105 : decode cX6_leastLength 105 = .ok (.goto (-60), 3) := by decide +kernel
theorem dX6_leastLength_108 : decode cX6_leastLength 108 = .ok (.iinc 1 1, 3) := by decide +kernel
theorem dX6_leastLength_111 : decode cX6_leastLength 111 = .ok (.goto (-84), 3) := by decide +kernel
theorem dX6_leastLength_114 : decode cX6_leastLength 114 = .ok (.aload_n 0, 1) := by decide +kernel
theorem dX6_leastLength_115 : decode cX6_leastLength 115 = .ok (.getfield 27, 3) := by decide +kernel
theorem dX6_leastLength_118 : decode cX6_leastLength 118 = .ok (.aload_n 0, 1) := by decide +kernel
theorem dX6_leastLength_119 : decode cX6_leastLength 119 = .ok (.invokevirtual 100, 3) := by decide +kernel
theorem dX6_leastLength_122 : decode cX6_leastLength 122 = .ok (.iconst 0, 1) := by decide +kernel
theorem dX6_leastLength_123 : decode cX6_leastLength 123 = .ok (.invokevirtual 87, 3) := by decide +kernel
theorem dX6_leastLength_126 : decode cX6_leastLength 126 = .ok (.ireturn, 1) := by decide +kernel
theorem dX6_restWith_0 : decode cX6_restWith 0 = .ok (.aload_n 1, 1) := by decide +kernel
theorem dX6_restWith_1 : decode cX6_restWith 1 = .ok (.getfield 107, 3) := by decide +kernel
theorem dX6_restWith_4 : decode cX6_restWith 4 = .ok (.aload_n 0, 1) := by decide +kernel
theorem dX6_restWith_5 : decode cX6_restWith 5 = .ok (.getfield 27, 3) := by decide +kernel
theorem dX6_restWith_8 : decode cX6_restWith 8 = .ok (.iload_n 2, 1) := by decide +kernel
theorem dX6_restWith_9 : decode cX6_restWith 9 = .ok (.aload_n 1, 1) := by decide +kernel
theorem dX6_restWith_10 : decode cX6_restWith 10 = .ok (.getfield 62, 3) := by decide +kernel
theorem dX6_restWith_13 : decode cX6_restWith 13 = .ok (.iconst (-1), 1) := by decide +kernel
theorem dX6_restWith_14 : decode cX6_restWith 14 = .ok (.ixor, 1) := by decide +kernel
theorem dX6_restWith_15 : decode cX6_restWith 15 = .ok (.iand, 1) := by decide +kernel
theorem dX6_restWith_16 : decode cX6_restWith 16 = .ok (.aload_n 1, 1) := by decide +kernel
theorem dX6_restWith_17 : decode cX6_restWith 17 = .ok (.getfield 110, 3) := by decide +kernel
theorem dX6_restWith_20 : decode cX6_restWith 20 = .ok (.invokevirtual 87, 3) := by decide +kernel
theorem dX6_restWith_23 : decode cX6_restWith 23 = .ok (.iadd, 1) := by decide +kernel
theorem dX6_restWith_24 : decode cX6_restWith 24 = .ok (.ireturn, 1) := by decide +kernel
theorem dX6_leastLengthByTrying_0 : decode cX6_leastLengthByTrying 0 = .ok (.aload_n 0, 1) := by decide +kernel
theorem dX6_leastLengthByTrying_1 : decode cX6_leastLengthByTrying 1 = .ok (.aload_n 0, 1) := by decide +kernel
theorem dX6_leastLengthByTrying_2 : decode cX6_leastLengthByTrying 2 = .ok (.invokevirtual 100, 3) := by decide +kernel
theorem dX6_leastLengthByTrying_5 : decode cX6_leastLengthByTrying 5 = .ok (.iconst 0, 1) := by decide +kernel
theorem dX6_leastLengthByTrying_6 : decode cX6_leastLengthByTrying 6 = .ok (.iconst 0, 1) := by decide +kernel
theorem dX6_leastLengthByTrying_7 : decode cX6_leastLengthByTrying 7 = .ok (.invokestatic 113, 3) := by decide +kernel
theorem dX6_leastLengthByTrying_10 : decode cX6_leastLengthByTrying 10 = .ok (.ireturn, 1) := by decide +kernel
theorem dX6_triedRest_0 : decode cX6_triedRest 0 = .ok (.iload_n 1, 1) := by decide +kernel
theorem dX6_triedRest_1 : decode cX6_triedRest 1 = .ok (.ifCond .ne 16, 3) := by decide +kernel
theorem dX6_triedRest_4 : decode cX6_triedRest 4 = .ok (.aload_n 0, 1) := by decide +kernel
theorem dX6_triedRest_5 : decode cX6_triedRest 5 = .ok (.getfield 9, 3) := by decide +kernel
theorem dX6_triedRest_8 : decode cX6_triedRest 8 = .ok (.getfield 75, 3) := by decide +kernel
theorem dX6_triedRest_11 : decode cX6_triedRest 11 = .ok (.iload_n 2, 1) := by decide +kernel
theorem dX6_triedRest_12 : decode cX6_triedRest 12 = .ok (.iconst 0, 1) := by decide +kernel
theorem dX6_triedRest_13 : decode cX6_triedRest 13 = .ok (.invokevirtual 87, 3) := by decide +kernel
theorem dX6_triedRest_16 : decode cX6_triedRest 16 = .ok (.ireturn, 1) := by decide +kernel
theorem dX6_triedRest_17 : decode cX6_triedRest 17 = .ok (.ldc 91, 2) := by decide +kernel
theorem dX6_triedRest_19 : decode cX6_triedRest 19 = .ok (.istore 4, 2) := by decide +kernel
theorem dX6_triedRest_21 : decode cX6_triedRest 21 = .ok (.iload_n 3, 1) := by decide +kernel
theorem dX6_triedRest_22 : decode cX6_triedRest 22 = .ok (.iconst 5, 1) := by decide +kernel
theorem dX6_triedRest_23 : decode cX6_triedRest 23 = .ok (.if_icmp .lt 6, 3) := by decide +kernel
theorem dX6_triedRest_26 : decode cX6_triedRest 26 = .ok (.iload 4, 2) := by decide +kernel
theorem dX6_triedRest_28 : decode cX6_triedRest 28 = .ok (.ireturn, 1) := by decide +kernel
theorem dX6_triedRest_29 : decode cX6_triedRest 29 = .ok (.iconst 0, 1) := by decide +kernel
theorem dX6_triedRest_30 : decode cX6_triedRest 30 = .ok (.istore 5, 2) := by decide +kernel
theorem dX6_triedRest_32 : decode cX6_triedRest 32 = .ok (.iload 5, 2) := by decide +kernel
theorem dX6_triedRest_34 : decode cX6_triedRest 34 = .ok (.aload_n 0, 1) := by decide +kernel
theorem dX6_triedRest_35 : decode cX6_triedRest 35 = .ok (.getfield 18, 3) := by decide +kernel
theorem dX6_triedRest_38 : decode cX6_triedRest 38 = .ok (.invokevirtual 71, 3) := by decide +kernel
theorem dX6_triedRest_41 : decode cX6_triedRest 41 = .ok (.if_icmp .ge 88, 3) := by decide +kernel
theorem dX6_triedRest_44 : decode cX6_triedRest 44 = .ok (.aload_n 0, 1) := by decide +kernel
theorem dX6_triedRest_45 : decode cX6_triedRest 45 = .ok (.getfield 18, 3) := by decide +kernel
theorem dX6_triedRest_48 : decode cX6_triedRest 48 = .ok (.iload 5, 2) := by decide +kernel
theorem dX6_triedRest_50 : decode cX6_triedRest 50 = .ok (.invokevirtual 80, 3) := by decide +kernel
theorem dX6_triedRest_53 : decode cX6_triedRest 53 = .ok (.checkcast 63, 3) := by decide +kernel
theorem dX6_triedRest_56 : decode cX6_triedRest 56 = .ok (.astore 6, 2) := by decide +kernel
theorem dX6_triedRest_58 : decode cX6_triedRest 58 = .ok (.iload_n 1, 1) := by decide +kernel
theorem dX6_triedRest_59 : decode cX6_triedRest 59 = .ok (.aload 6, 2) := by decide +kernel
theorem dX6_triedRest_61 : decode cX6_triedRest 61 = .ok (.getfield 62, 3) := by decide +kernel
theorem dX6_triedRest_64 : decode cX6_triedRest 64 = .ok (.iand, 1) := by decide +kernel
theorem dX6_triedRest_65 : decode cX6_triedRest 65 = .ok (.ifCond .eq 58, 3) := by decide +kernel
theorem dX6_triedRest_68 : decode cX6_triedRest 68 = .ok (.aload_n 0, 1) := by decide +kernel
theorem dX6_triedRest_69 : decode cX6_triedRest 69 = .ok (.getfield 9, 3) := by decide +kernel
theorem dX6_triedRest_72 : decode cX6_triedRest 72 = .ok (.getfield 75, 3) := by decide +kernel
theorem dX6_triedRest_75 : decode cX6_triedRest 75 = .ok (.iload_n 2, 1) := by decide +kernel
theorem dX6_triedRest_76 : decode cX6_triedRest 76 = .ok (.aload 6, 2) := by decide +kernel
theorem dX6_triedRest_78 : decode cX6_triedRest 78 = .ok (.getfield 84, 3) := by decide +kernel
theorem dX6_triedRest_81 : decode cX6_triedRest 81 = .ok (.invokevirtual 87, 3) := by decide +kernel
theorem dX6_triedRest_84 : decode cX6_triedRest 84 = .ok (.aload 6, 2) := by decide +kernel
theorem dX6_triedRest_86 : decode cX6_triedRest 86 = .ok (.getfield 107, 3) := by decide +kernel
theorem dX6_triedRest_89 : decode cX6_triedRest 89 = .ok (.iadd, 1) := by decide +kernel
theorem dX6_triedRest_90 : decode cX6_triedRest 90 = .ok (.istore 7, 2) := by decide +kernel
theorem dX6_triedRest_92 : decode cX6_triedRest 92 = .ok (.iload 4, 2) := by decide +kernel
theorem dX6_triedRest_94 : decode cX6_triedRest 94 = .ok (.iload 7, 2) := by decide +kernel
theorem dX6_triedRest_96 : decode cX6_triedRest 96 = .ok (.aload_n 0, 1) := by decide +kernel
theorem dX6_triedRest_97 : decode cX6_triedRest 97 = .ok (.iload_n 1, 1) := by decide +kernel
theorem dX6_triedRest_98 : decode cX6_triedRest 98 = .ok (.aload 6, 2) := by decide +kernel
theorem dX6_triedRest_100 : decode cX6_triedRest 100 = .ok (.getfield 62, 3) := by decide +kernel
theorem dX6_triedRest_103 : decode cX6_triedRest 103 = .ok (.iconst (-1), 1) := by decide +kernel
theorem dX6_triedRest_104 : decode cX6_triedRest 104 = .ok (.ixor, 1) := by decide +kernel
theorem dX6_triedRest_105 : decode cX6_triedRest 105 = .ok (.iand, 1) := by decide +kernel
theorem dX6_triedRest_106 : decode cX6_triedRest 106 = .ok (.aload 6, 2) := by decide +kernel
theorem dX6_triedRest_108 : decode cX6_triedRest 108 = .ok (.getfield 110, 3) := by decide +kernel
theorem dX6_triedRest_111 : decode cX6_triedRest 111 = .ok (.iload_n 3, 1) := by decide +kernel
theorem dX6_triedRest_112 : decode cX6_triedRest 112 = .ok (.iconst 1, 1) := by decide +kernel
theorem dX6_triedRest_113 : decode cX6_triedRest 113 = .ok (.iadd, 1) := by decide +kernel
theorem dX6_triedRest_114 : decode cX6_triedRest 114 = .ok (.invokestatic 113, 3) := by decide +kernel
theorem dX6_triedRest_117 : decode cX6_triedRest 117 = .ok (.iadd, 1) := by decide +kernel
theorem dX6_triedRest_118 : decode cX6_triedRest 118 = .ok (.invokestatic 117, 3) := by decide +kernel
theorem dX6_triedRest_121 : decode cX6_triedRest 121 = .ok (.istore 4, 2) := by decide +kernel
theorem dX6_triedRest_123 : decode cX6_triedRest 123 = .ok (.iinc 5 1, 3) := by decide +kernel
theorem dX6_triedRest_126 : decode cX6_triedRest 126 = .ok (.goto (-94), 3) := by decide +kernel
theorem dX6_triedRest_129 : decode cX6_triedRest 129 = .ok (.iload 4, 2) := by decide +kernel
theorem dX6_triedRest_131 : decode cX6_triedRest 131 = .ok (.ireturn, 1) := by decide +kernel
theorem dX6_trace_0 : decode cX6_trace 0 = .ok (.aload_n 0, 1) := by decide +kernel
theorem dX6_trace_1 : decode cX6_trace 1 = .ok (.invokevirtual 122, 3) := by decide +kernel
theorem dX6_trace_4 : decode cX6_trace 4 = .ok (.istore_n 1, 1) := by decide +kernel
theorem dX6_trace_5 : decode cX6_trace 5 = .ok (.aload_n 0, 1) := by decide +kernel
theorem dX6_trace_6 : decode cX6_trace 6 = .ok (.invokevirtual 100, 3) := by decide +kernel
theorem dX6_trace_9 : decode cX6_trace 9 = .ok (.istore_n 2, 1) := by decide +kernel
theorem dX6_trace_10 : decode cX6_trace 10 = .ok (.iconst 0, 1) := by decide +kernel
theorem dX6_trace_11 : decode cX6_trace 11 = .ok (.istore_n 3, 1) := by decide +kernel
theorem dX6_trace_12 : decode cX6_trace 12 = .ok (.aload_n 0, 1) := by decide +kernel
theorem dX6_trace_13 : decode cX6_trace 13 = .ok (.getfield 31, 3) := by decide +kernel
theorem dX6_trace_16 : decode cX6_trace 16 = .ok (.invokevirtual 38, 3) := by decide +kernel
theorem dX6_trace_19 : decode cX6_trace 19 = .ok (.aload_n 0, 1) := by decide +kernel
theorem dX6_trace_20 : decode cX6_trace 20 = .ok (.iconst 0, 1) := by decide +kernel
theorem dX6_trace_21 : decode cX6_trace 21 = .ok (.putfield 125, 3) := by decide +kernel
theorem dX6_trace_24 : decode cX6_trace 24 = .ok (.aload_n 0, 1) := by decide +kernel
theorem dX6_trace_25 : decode cX6_trace 25 = .ok (.iconst 0, 1) := by decide +kernel
theorem dX6_trace_26 : decode cX6_trace 26 = .ok (.invokevirtual 128, 3) := by decide +kernel
theorem dX6_trace_29 : decode cX6_trace 29 = .ok (.iconst 0, 1) := by decide +kernel
theorem dX6_trace_30 : decode cX6_trace 30 = .ok (.istore 4, 2) := by decide +kernel
theorem dX6_trace_32 : decode cX6_trace 32 = .ok (.iload 4, 2) := by decide +kernel
theorem dX6_trace_34 : decode cX6_trace 34 = .ok (.aload_n 0, 1) := by decide +kernel
theorem dX6_trace_35 : decode cX6_trace 35 = .ok (.getfield 41, 3) := by decide +kernel
theorem dX6_trace_38 : decode cX6_trace 38 = .ok (.if_icmp .ge 82, 3) := by decide +kernel
theorem dX6_trace_41 : decode cX6_trace 41 = .ok (.aload_n 0, 1) := by decide +kernel
theorem dX6_trace_42 : decode cX6_trace 42 = .ok (.iload_n 2, 1) := by decide +kernel
theorem dX6_trace_43 : decode cX6_trace 43 = .ok (.iload_n 3, 1) := by decide +kernel
theorem dX6_trace_44 : decode cX6_trace 44 = .ok (.invokevirtual 131, 3) := by decide +kernel
theorem dX6_trace_47 : decode cX6_trace 47 = .ok (.astore 5, 2) := by decide +kernel
theorem dX6_trace_49 : decode cX6_trace 49 = .ok (.aload 5, 2) := by decide +kernel
theorem dX6_trace_51 : decode cX6_trace 51 = .ok (.ifnonnull 4, 3) := by decide +kernel
theorem dX6_trace_54 : decode cX6_trace 54 = .ok (.return_, 1) := by decide +kernel
theorem dX6_trace_55 : decode cX6_trace 55 = .ok (.aload 5, 2) := by decide +kernel
theorem dX6_trace_57 : decode cX6_trace 57 = .ok (.iload_n 1, 1) := by decide +kernel
theorem dX6_trace_58 : decode cX6_trace 58 = .ok (.aload_n 0, 1) := by decide +kernel
theorem dX6_trace_59 : decode cX6_trace 59 = .ok (.aload 5, 2) := by decide +kernel
theorem dX6_trace_61 : decode cX6_trace 61 = .ok (.iload_n 2, 1) := by decide +kernel
theorem dX6_trace_62 : decode cX6_trace 62 = .ok (.invokevirtual 103, 3) := by decide +kernel
theorem dX6_trace_65 : decode cX6_trace 65 = .ok (.isub, 1) := by decide +kernel
theorem dX6_trace_66 : decode cX6_trace 66 = .ok (.putfield 135, 3) := by decide +kernel
theorem dX6_trace_69 : decode cX6_trace 69 = .ok (.aload_n 0, 1) := by decide +kernel
theorem dX6_trace_70 : decode cX6_trace 70 = .ok (.aload 5, 2) := by decide +kernel
theorem dX6_trace_72 : decode cX6_trace 72 = .ok (.getfield 84, 3) := by decide +kernel
theorem dX6_trace_75 : decode cX6_trace 75 = .ok (.iload_n 3, 1) := by decide +kernel
theorem dX6_trace_76 : decode cX6_trace 76 = .ok (.invokevirtual 138, 3) := by decide +kernel
theorem dX6_trace_79 : decode cX6_trace 79 = .ok (.aload_n 0, 1) := by decide +kernel
theorem dX6_trace_80 : decode cX6_trace 80 = .ok (.aload 5, 2) := by decide +kernel
theorem dX6_trace_82 : decode cX6_trace 82 = .ok (.getfield 110, 3) := by decide +kernel
theorem dX6_trace_85 : decode cX6_trace 85 = .ok (.invokevirtual 128, 3) := by decide +kernel
theorem dX6_trace_88 : decode cX6_trace 88 = .ok (.aload_n 0, 1) := by decide +kernel
theorem dX6_trace_89 : decode cX6_trace 89 = .ok (.getfield 31, 3) := by decide +kernel
theorem dX6_trace_92 : decode cX6_trace 92 = .ok (.aload 5, 2) := by decide +kernel
theorem dX6_trace_94 : decode cX6_trace 94 = .ok (.invokevirtual 67, 3) := by decide +kernel
theorem dX6_trace_97 : decode cX6_trace 97 = .ok (.pop, 1) := by decide +kernel
theorem dX6_trace_98 : decode cX6_trace 98 = .ok (.iload_n 2, 1) := by decide +kernel
theorem dX6_trace_99 : decode cX6_trace 99 = .ok (.aload 5, 2) := by decide +kernel
theorem dX6_trace_101 : decode cX6_trace 101 = .ok (.getfield 62, 3) := by decide +kernel
theorem dX6_trace_104 : decode cX6_trace 104 = .ok (.iconst (-1), 1) := by decide +kernel
theorem dX6_trace_105 : decode cX6_trace 105 = .ok (.ixor, 1) := by decide +kernel
theorem dX6_trace_106 : decode cX6_trace 106 = .ok (.iand, 1) := by decide +kernel
theorem dX6_trace_107 : decode cX6_trace 107 = .ok (.istore_n 2, 1) := by decide +kernel
theorem dX6_trace_108 : decode cX6_trace 108 = .ok (.aload 5, 2) := by decide +kernel
theorem dX6_trace_110 : decode cX6_trace 110 = .ok (.getfield 110, 3) := by decide +kernel
theorem dX6_trace_113 : decode cX6_trace 113 = .ok (.istore_n 3, 1) := by decide +kernel
theorem dX6_trace_114 : decode cX6_trace 114 = .ok (.iinc 4 1, 3) := by decide +kernel
theorem dX6_trace_117 : decode cX6_trace 117 = .ok (.goto (-85), 3) := by decide +kernel
theorem dX6_trace_120 : decode cX6_trace 120 = .ok (.aload_n 0, 1) := by decide +kernel
theorem dX6_trace_121 : decode cX6_trace 121 = .ok (.iconst 0, 1) := by decide +kernel
theorem dX6_trace_122 : decode cX6_trace 122 = .ok (.iload_n 3, 1) := by decide +kernel
theorem dX6_trace_123 : decode cX6_trace 123 = .ok (.invokevirtual 138, 3) := by decide +kernel
theorem dX6_trace_126 : decode cX6_trace 126 = .ok (.return_, 1) := by decide +kernel
theorem dX6_bestPass_0 : decode cX6_bestPass 0 = .ok (.iconst 0, 1) := by decide +kernel
theorem dX6_bestPass_1 : decode cX6_bestPass 1 = .ok (.istore_n 3, 1) := by decide +kernel
theorem dX6_bestPass_2 : decode cX6_bestPass 2 = .ok (.iload_n 3, 1) := by decide +kernel
theorem dX6_bestPass_3 : decode cX6_bestPass 3 = .ok (.aload_n 0, 1) := by decide +kernel
theorem dX6_bestPass_4 : decode cX6_bestPass 4 = .ok (.getfield 18, 3) := by decide +kernel
theorem dX6_bestPass_7 : decode cX6_bestPass 7 = .ok (.invokevirtual 71, 3) := by decide +kernel
theorem dX6_bestPass_10 : decode cX6_bestPass 10 = .ok (.if_icmp .ge 75, 3) := by decide +kernel
theorem dX6_bestPass_13 : decode cX6_bestPass 13 = .ok (.aload_n 0, 1) := by decide +kernel
theorem dX6_bestPass_14 : decode cX6_bestPass 14 = .ok (.getfield 18, 3) := by decide +kernel
theorem dX6_bestPass_17 : decode cX6_bestPass 17 = .ok (.iload_n 3, 1) := by decide +kernel
theorem dX6_bestPass_18 : decode cX6_bestPass 18 = .ok (.invokevirtual 80, 3) := by decide +kernel
theorem dX6_bestPass_21 : decode cX6_bestPass 21 = .ok (.checkcast 63, 3) := by decide +kernel
theorem dX6_bestPass_24 : decode cX6_bestPass 24 = .ok (.astore 4, 2) := by decide +kernel
theorem dX6_bestPass_26 : decode cX6_bestPass 26 = .ok (.aload_n 0, 1) := by decide +kernel
theorem dX6_bestPass_27 : decode cX6_bestPass 27 = .ok (.getfield 9, 3) := by decide +kernel
theorem dX6_bestPass_30 : decode cX6_bestPass 30 = .ok (.getfield 75, 3) := by decide +kernel
theorem dX6_bestPass_33 : decode cX6_bestPass 33 = .ok (.iload_n 2, 1) := by decide +kernel
theorem dX6_bestPass_34 : decode cX6_bestPass 34 = .ok (.aload 4, 2) := by decide +kernel
theorem dX6_bestPass_36 : decode cX6_bestPass 36 = .ok (.getfield 84, 3) := by decide +kernel
theorem dX6_bestPass_39 : decode cX6_bestPass 39 = .ok (.invokevirtual 87, 3) := by decide +kernel
theorem dX6_bestPass_42 : decode cX6_bestPass 42 = .ok (.aload_n 0, 1) := by decide +kernel
theorem dX6_bestPass_43 : decode cX6_bestPass 43 = .ok (.aload 4, 2) := by decide +kernel
theorem dX6_bestPass_45 : decode cX6_bestPass 45 = .ok (.iload_n 1, 1) := by decide +kernel
theorem dX6_bestPass_46 : decode cX6_bestPass 46 = .ok (.invokevirtual 103, 3) := by decide +kernel
theorem dX6_bestPass_49 : decode cX6_bestPass 49 = .ok (.iadd, 1) := by decide +kernel
theorem dX6_bestPass_50 : decode cX6_bestPass 50 = .ok (.istore 5, 2) := by decide +kernel
theorem dX6_bestPass_52 : decode cX6_bestPass 52 = .ok (.iload_n 1, 1) := by decide +kernel
theorem dX6_bestPass_53 : decode cX6_bestPass 53 = .ok (.aload 4, 2) := by decide +kernel
theorem dX6_bestPass_55 : decode cX6_bestPass 55 = .ok (.getfield 62, 3) := by decide +kernel
theorem dX6_bestPass_58 : decode cX6_bestPass 58 = .ok (.iand, 1) := by decide +kernel
theorem dX6_bestPass_59 : decode cX6_bestPass 59 = .ok (.ifCond .eq 20, 3) := by decide +kernel
theorem dX6_bestPass_62 : decode cX6_bestPass 62 = .ok (.iload 5, 2) := by decide +kernel
theorem dX6_bestPass_64 : decode cX6_bestPass 64 = .ok (.aload_n 0, 1) := by decide +kernel
theorem dX6_bestPass_65 : decode cX6_bestPass 65 = .ok (.getfield 27, 3) := by decide +kernel
theorem dX6_bestPass_68 : decode cX6_bestPass 68 = .ok (.iload_n 1, 1) := by decide +kernel
theorem dX6_bestPass_69 : decode cX6_bestPass 69 = .ok (.iload_n 2, 1) := by decide +kernel
theorem dX6_bestPass_70 : decode cX6_bestPass 70 = .ok (.invokevirtual 87, 3) := by decide +kernel
theorem dX6_bestPass_73 : decode cX6_bestPass 73 = .ok (.if_icmp .ne 6, 3) := by decide +kernel
theorem dX6_bestPass_76 : decode cX6_bestPass 76 = .ok (.aload 4, 2) := by decide +kernel
theorem dX6_bestPass_78 : decode cX6_bestPass 78 = .ok (.areturn, 1) := by decide +kernel
theorem dX6_bestPass_79 : decode cX6_bestPass 79 = .ok (.iinc 3 1, 3) := by decide +kernel
theorem dX6_bestPass_82 : decode cX6_bestPass 82 = .ok (.goto (-80), 3) := by decide +kernel
theorem dX6_bestPass_85 : decode cX6_bestPass 85 = .ok (.aconst_null, 1) := by decide +kernel
theorem dX6_bestPass_86 : decode cX6_bestPass 86 = .ok (.areturn, 1) := by decide +kernel
theorem dX6_goTo_0 : decode cX6_goTo 0 = .ok (.iload_n 2, 1) := by decide +kernel
theorem dX6_goTo_1 : decode cX6_goTo 1 = .ok (.istore_n 3, 1) := by decide +kernel
theorem dX6_goTo_2 : decode cX6_goTo 2 = .ok (.iconst 0, 1) := by decide +kernel
theorem dX6_goTo_3 : decode cX6_goTo 3 = .ok (.istore 4, 2) := by decide +kernel
theorem dX6_goTo_5 : decode cX6_goTo 5 = .ok (.iload 4, 2) := by decide +kernel
theorem dX6_goTo_7 : decode cX6_goTo 7 = .ok (.bipush 10, 2) := by decide +kernel
theorem dX6_goTo_9 : decode cX6_goTo 9 = .ok (.if_icmp .ge 29, 3) := by decide +kernel
theorem dX6_goTo_12 : decode cX6_goTo 12 = .ok (.iload_n 3, 1) := by decide +kernel
theorem dX6_goTo_13 : decode cX6_goTo 13 = .ok (.iload_n 1, 1) := by decide +kernel
theorem dX6_goTo_14 : decode cX6_goTo 14 = .ok (.if_icmp .eq 24, 3) := by decide +kernel
theorem dX6_goTo_17 : decode cX6_goTo 17 = .ok (.aload_n 0, 1) := by decide +kernel
theorem dX6_goTo_18 : decode cX6_goTo 18 = .ok (.getfield 9, 3) := by decide +kernel
theorem dX6_goTo_21 : decode cX6_goTo 21 = .ok (.iload_n 3, 1) := by decide +kernel
theorem dX6_goTo_22 : decode cX6_goTo 22 = .ok (.iload_n 1, 1) := by decide +kernel
theorem dX6_goTo_23 : decode cX6_goTo 23 = .ok (.invokevirtual 141, 3) := by decide +kernel
theorem dX6_goTo_26 : decode cX6_goTo 26 = .ok (.istore_n 3, 1) := by decide +kernel
theorem dX6_goTo_27 : decode cX6_goTo 27 = .ok (.aload_n 0, 1) := by decide +kernel
theorem dX6_goTo_28 : decode cX6_goTo 28 = .ok (.iload_n 3, 1) := by decide +kernel
theorem dX6_goTo_29 : decode cX6_goTo 29 = .ok (.invokevirtual 128, 3) := by decide +kernel
theorem dX6_goTo_32 : decode cX6_goTo 32 = .ok (.iinc 4 1, 3) := by decide +kernel
theorem dX6_goTo_35 : decode cX6_goTo 35 = .ok (.goto (-30), 3) := by decide +kernel
theorem dX6_goTo_38 : decode cX6_goTo 38 = .ok (.return_, 1) := by decide +kernel
theorem dX6_comeTo_0 : decode cX6_comeTo 0 = .ok (.aload_n 0, 1) := by decide +kernel
theorem dX6_comeTo_1 : decode cX6_comeTo 1 = .ok (.getfield 125, 3) := by decide +kernel
theorem dX6_comeTo_4 : decode cX6_comeTo 4 = .ok (.aload_n 0, 1) := by decide +kernel
theorem dX6_comeTo_5 : decode cX6_comeTo 5 = .ok (.getfield 34, 3) := by decide +kernel
theorem dX6_comeTo_8 : decode cX6_comeTo 8 = .ok (.arraylength, 1) := by decide +kernel
theorem dX6_comeTo_9 : decode cX6_comeTo 9 = .ok (.if_icmp .ge 23, 3) := by decide +kernel
theorem dX6_comeTo_12 : decode cX6_comeTo 12 = .ok (.aload_n 0, 1) := by decide +kernel
theorem dX6_comeTo_13 : decode cX6_comeTo 13 = .ok (.getfield 34, 3) := by decide +kernel
theorem dX6_comeTo_16 : decode cX6_comeTo 16 = .ok (.aload_n 0, 1) := by decide +kernel
theorem dX6_comeTo_17 : decode cX6_comeTo 17 = .ok (.getfield 125, 3) := by decide +kernel
theorem dX6_comeTo_20 : decode cX6_comeTo 20 = .ok (.iload_n 1, 1) := by decide +kernel
theorem dX6_comeTo_21 : decode cX6_comeTo 21 = .ok (.iastore, 1) := by decide +kernel
theorem dX6_comeTo_22 : decode cX6_comeTo 22 = .ok (.aload_n 0, 1) := by decide +kernel
theorem dX6_comeTo_23 : decode cX6_comeTo 23 = .ok (.dup, 1) := by decide +kernel
theorem dX6_comeTo_24 : decode cX6_comeTo 24 = .ok (.getfield 125, 3) := by decide +kernel
theorem dX6_comeTo_27 : decode cX6_comeTo 27 = .ok (.iconst 1, 1) := by decide +kernel
theorem dX6_comeTo_28 : decode cX6_comeTo 28 = .ok (.iadd, 1) := by decide +kernel
theorem dX6_comeTo_29 : decode cX6_comeTo 29 = .ok (.putfield 125, 3) := by decide +kernel
theorem dX6_comeTo_32 : decode cX6_comeTo 32 = .ok (.return_, 1) := by decide +kernel
theorem dX6_lengthTo_0 : decode cX6_lengthTo 0 = .ok (.iconst 0, 1) := by decide +kernel
theorem dX6_lengthTo_1 : decode cX6_lengthTo 1 = .ok (.istore_n 2, 1) := by decide +kernel
theorem dX6_lengthTo_2 : decode cX6_lengthTo 2 = .ok (.iload_n 2, 1) := by decide +kernel
theorem dX6_lengthTo_3 : decode cX6_lengthTo 3 = .ok (.aload_n 0, 1) := by decide +kernel
theorem dX6_lengthTo_4 : decode cX6_lengthTo 4 = .ok (.getfield 31, 3) := by decide +kernel
theorem dX6_lengthTo_7 : decode cX6_lengthTo 7 = .ok (.invokevirtual 71, 3) := by decide +kernel
theorem dX6_lengthTo_10 : decode cX6_lengthTo 10 = .ok (.if_icmp .ge 40, 3) := by decide +kernel
theorem dX6_lengthTo_13 : decode cX6_lengthTo 13 = .ok (.aload_n 0, 1) := by decide +kernel
theorem dX6_lengthTo_14 : decode cX6_lengthTo 14 = .ok (.getfield 31, 3) := by decide +kernel
theorem dX6_lengthTo_17 : decode cX6_lengthTo 17 = .ok (.iload_n 2, 1) := by decide +kernel
theorem dX6_lengthTo_18 : decode cX6_lengthTo 18 = .ok (.invokevirtual 80, 3) := by decide +kernel
theorem dX6_lengthTo_21 : decode cX6_lengthTo 21 = .ok (.checkcast 63, 3) := by decide +kernel
theorem dX6_lengthTo_24 : decode cX6_lengthTo 24 = .ok (.astore_n 3, 1) := by decide +kernel
theorem dX6_lengthTo_25 : decode cX6_lengthTo 25 = .ok (.aload_n 3, 1) := by decide +kernel
theorem dX6_lengthTo_26 : decode cX6_lengthTo 26 = .ok (.aload_n 1, 1) := by decide +kernel
theorem dX6_lengthTo_27 : decode cX6_lengthTo 27 = .ok (.invokevirtual 144, 3) := by decide +kernel
theorem dX6_lengthTo_30 : decode cX6_lengthTo 30 = .ok (.ifCond .eq 14, 3) := by decide +kernel
theorem dX6_lengthTo_33 : decode cX6_lengthTo 33 = .ok (.aload_n 3, 1) := by decide +kernel
theorem dX6_lengthTo_34 : decode cX6_lengthTo 34 = .ok (.getfield 135, 3) := by decide +kernel
theorem dX6_lengthTo_37 : decode cX6_lengthTo 37 = .ok (.aload_n 3, 1) := by decide +kernel
theorem dX6_lengthTo_38 : decode cX6_lengthTo 38 = .ok (.aload_n 1, 1) := by decide +kernel
theorem dX6_lengthTo_39 : decode cX6_lengthTo 39 = .ok (.invokevirtual 148, 3) := by decide +kernel
theorem dX6_lengthTo_42 : decode cX6_lengthTo 42 = .ok (.iadd, 1) := by decide +kernel
theorem dX6_lengthTo_43 : decode cX6_lengthTo 43 = .ok (.ireturn, 1) := by decide +kernel
theorem dX6_lengthTo_44 : decode cX6_lengthTo 44 = .ok (.iinc 2 1, 3) := by decide +kernel
theorem dX6_lengthTo_47 : decode cX6_lengthTo 47 = .ok (.goto (-45), 3) := by decide +kernel
theorem dX6_lengthTo_50 : decode cX6_lengthTo 50 = .ok (.iconst (-1), 1) := by decide +kernel
theorem dX6_lengthTo_51 : decode cX6_lengthTo 51 = .ok (.ireturn, 1) := by decide +kernel
theorem dX7_init_0 : decode cX7_init 0 = .ok (.aload_n 0, 1) := by decide +kernel
theorem dX7_init_1 : decode cX7_init 1 = .ok (.invokespecial 3, 3) := by decide +kernel
theorem dX7_init_4 : decode cX7_init 4 = .ok (.aload_n 0, 1) := by decide +kernel
theorem dX7_init_5 : decode cX7_init 5 = .ok (.new 9, 3) := by decide +kernel
theorem dX7_init_8 : decode cX7_init 8 = .ok (.dup, 1) := by decide +kernel
theorem dX7_init_9 : decode cX7_init 9 = .ok (.bipush 10, 2) := by decide +kernel
theorem dX7_init_11 : decode cX7_init 11 = .ok (.bipush 10, 2) := by decide +kernel
theorem dX7_init_13 : decode cX7_init 13 = .ok (.invokespecial 11, 3) := by decide +kernel
theorem dX7_init_16 : decode cX7_init 16 = .ok (.putfield 14, 3) := by decide +kernel
theorem dX7_init_19 : decode cX7_init 19 = .ok (.aload_n 0, 1) := by decide +kernel
theorem dX7_init_20 : decode cX7_init 20 = .ok (.new 9, 3) := by decide +kernel
theorem dX7_init_23 : decode cX7_init 23 = .ok (.dup, 1) := by decide +kernel
theorem dX7_init_24 : decode cX7_init 24 = .ok (.bipush 10, 2) := by decide +kernel
theorem dX7_init_26 : decode cX7_init 26 = .ok (.bipush 10, 2) := by decide +kernel
theorem dX7_init_28 : decode cX7_init 28 = .ok (.invokespecial 11, 3) := by decide +kernel
theorem dX7_init_31 : decode cX7_init 31 = .ok (.putfield 20, 3) := by decide +kernel
theorem dX7_init_34 : decode cX7_init 34 = .ok (.aload_n 0, 1) := by decide +kernel
theorem dX7_init_35 : decode cX7_init 35 = .ok (.new 9, 3) := by decide +kernel
theorem dX7_init_38 : decode cX7_init 38 = .ok (.dup, 1) := by decide +kernel
theorem dX7_init_39 : decode cX7_init 39 = .ok (.iconst 1, 1) := by decide +kernel
theorem dX7_init_40 : decode cX7_init 40 = .ok (.bipush 10, 2) := by decide +kernel
theorem dX7_init_42 : decode cX7_init 42 = .ok (.invokespecial 11, 3) := by decide +kernel
theorem dX7_init_45 : decode cX7_init 45 = .ok (.putfield 23, 3) := by decide +kernel
theorem dX7_init_48 : decode cX7_init 48 = .ok (.iconst 0, 1) := by decide +kernel
theorem dX7_init_49 : decode cX7_init 49 = .ok (.istore_n 1, 1) := by decide +kernel
theorem dX7_init_50 : decode cX7_init 50 = .ok (.iload_n 1, 1) := by decide +kernel
theorem dX7_init_51 : decode cX7_init 51 = .ok (.bipush 10, 2) := by decide +kernel
theorem dX7_init_53 : decode cX7_init 53 = .ok (.if_icmp .ge 19, 3) := by decide +kernel
theorem dX7_init_56 : decode cX7_init 56 = .ok (.aload_n 0, 1) := by decide +kernel
theorem dX7_init_57 : decode cX7_init 57 = .ok (.getfield 20, 3) := by decide +kernel
theorem dX7_init_60 : decode cX7_init 60 = .ok (.iload_n 1, 1) := by decide +kernel
theorem dX7_init_61 : decode cX7_init 61 = .ok (.iload_n 1, 1) := by decide +kernel
theorem dX7_init_62 : decode cX7_init 62 = .ok (.iconst 0, 1) := by decide +kernel
theorem dX7_init_63 : decode cX7_init 63 = .ok (.invokevirtual 26, 3) := by decide +kernel
theorem dX7_init_66 : decode cX7_init 66 = .ok (.iinc 1 1, 3) := by decide +kernel
theorem dX7_init_69 : decode cX7_init 69 = .ok (.goto (-19), 3) := by decide +kernel
theorem dX7_init_72 : decode cX7_init 72 = .ok (.return_, 1) := by decide +kernel
theorem dX7_connect_0 : decode cX7_connect 0 = .ok (.aload_n 1, 1) := by decide +kernel
theorem dX7_connect_1 : decode cX7_connect 1 = .ok (.getfield 30, 3) := by decide +kernel
theorem dX7_connect_4 : decode cX7_connect 4 = .ok (.astore_n 2, 1) := by decide +kernel
theorem dX7_connect_5 : decode cX7_connect 5 = .ok (.aload_n 1, 1) := by decide +kernel
theorem dX7_connect_6 : decode cX7_connect 6 = .ok (.getfield 36, 3) := by decide +kernel
theorem dX7_connect_9 : decode cX7_connect 9 = .ok (.aload_n 0, 1) := by decide +kernel
theorem dX7_connect_10 : decode cX7_connect 10 = .ok (.getfield 14, 3) := by decide +kernel
theorem dX7_connect_13 : decode cX7_connect 13 = .ok (.aload_n 2, 1) := by decide +kernel
theorem dX7_connect_14 : decode cX7_connect 14 = .ok (.getfield 40, 3) := by decide +kernel
theorem dX7_connect_17 : decode cX7_connect 17 = .ok (.aload_n 2, 1) := by decide +kernel
theorem dX7_connect_18 : decode cX7_connect 18 = .ok (.getfield 45, 3) := by decide +kernel
theorem dX7_connect_21 : decode cX7_connect 21 = .ok (.invokevirtual 48, 3) := by decide +kernel
theorem dX7_connect_24 : decode cX7_connect 24 = .ok (.invokestatic 52, 3) := by decide +kernel
theorem dX7_connect_27 : decode cX7_connect 27 = .ok (.istore_n 3, 1) := by decide +kernel
theorem dX7_connect_28 : decode cX7_connect 28 = .ok (.aload_n 0, 1) := by decide +kernel
theorem dX7_connect_29 : decode cX7_connect 29 = .ok (.getfield 14, 3) := by decide +kernel
theorem dX7_connect_32 : decode cX7_connect 32 = .ok (.aload_n 2, 1) := by decide +kernel
theorem dX7_connect_33 : decode cX7_connect 33 = .ok (.getfield 40, 3) := by decide +kernel
theorem dX7_connect_36 : decode cX7_connect 36 = .ok (.aload_n 2, 1) := by decide +kernel
theorem dX7_connect_37 : decode cX7_connect 37 = .ok (.getfield 45, 3) := by decide +kernel
theorem dX7_connect_40 : decode cX7_connect 40 = .ok (.iload_n 3, 1) := by decide +kernel
theorem dX7_connect_41 : decode cX7_connect 41 = .ok (.invokevirtual 26, 3) := by decide +kernel
theorem dX7_connect_44 : decode cX7_connect 44 = .ok (.aload_n 0, 1) := by decide +kernel
theorem dX7_connect_45 : decode cX7_connect 45 = .ok (.getfield 14, 3) := by decide +kernel
theorem dX7_connect_48 : decode cX7_connect 48 = .ok (.aload_n 2, 1) := by decide +kernel
theorem dX7_connect_49 : decode cX7_connect 49 = .ok (.getfield 45, 3) := by decide +kernel
theorem dX7_connect_52 : decode cX7_connect 52 = .ok (.aload_n 2, 1) := by decide +kernel
theorem dX7_connect_53 : decode cX7_connect 53 = .ok (.getfield 40, 3) := by decide +kernel
theorem dX7_connect_56 : decode cX7_connect 56 = .ok (.iload_n 3, 1) := by decide +kernel
theorem dX7_connect_57 : decode cX7_connect 57 = .ok (.invokevirtual 26, 3) := by decide +kernel
theorem dX7_connect_60 : decode cX7_connect 60 = .ok (.iconst 0, 1) := by decide +kernel
theorem dX7_connect_61 : decode cX7_connect 61 = .ok (.istore 4, 2) := by decide +kernel
theorem dX7_connect_63 : decode cX7_connect 63 = .ok (.iload 4, 2) := by decide +kernel
theorem dX7_connect_65 : decode cX7_connect 65 = .ok (.bipush 10, 2) := by decide +kernel
theorem dX7_connect_67 : decode cX7_connect 67 = .ok (.if_icmp .ge 15, 3) := by decide +kernel
theorem dX7_connect_70 : decode cX7_connect 70 = .ok (.aload_n 0, 1) := by decide +kernel
theorem dX7_connect_71 : decode cX7_connect 71 = .ok (.iload 4, 2) := by decide +kernel
theorem dX7_connect_73 : decode cX7_connect 73 = .ok (.invokevirtual 57, 3) := by decide +kernel
theorem dX7_connect_76 : decode cX7_connect 76 = .ok (.iinc 4 1, 3) := by decide +kernel
theorem dX7_connect_79 : decode cX7_connect 79 = .ok (.goto (-16), 3) := by decide +kernel
theorem dX7_connect_82 : decode cX7_connect 82 = .ok (.return_, 1) := by decide +kernel
theorem dX7_measureFrom_0 : decode cX7_measureFrom 0 = .ok (.iconst 0, 1) := by decide +kernel
theorem dX7_measureFrom_1 : decode cX7_measureFrom 1 = .ok (.istore_n 2, 1) := by decide +kernel
theorem dX7_measureFrom_2 : decode cX7_measureFrom 2 = .ok (.iconst 0, 1) := by decide +kernel
theorem dX7_measureFrom_3 : decode cX7_measureFrom 3 = .ok (.istore_n 3, 1) := by decide +kernel
theorem dX7_measureFrom_4 : decode cX7_measureFrom 4 = .ok (.iload_n 3, 1) := by decide +kernel
theorem dX7_measureFrom_5 : decode cX7_measureFrom 5 = .ok (.bipush 10, 2) := by decide +kernel
theorem dX7_measureFrom_7 : decode cX7_measureFrom 7 = .ok (.if_icmp .ge 98, 3) := by decide +kernel
theorem dX7_measureFrom_10 : decode cX7_measureFrom 10 = .ok (.aload_n 0, 1) := by decide +kernel
theorem dX7_measureFrom_11 : decode cX7_measureFrom 11 = .ok (.iload_n 1, 1) := by decide +kernel
theorem dX7_measureFrom_12 : decode cX7_measureFrom 12 = .ok (.iload_n 2, 1) := by decide +kernel
theorem dX7_measureFrom_13 : decode cX7_measureFrom 13 = .ok (.invokevirtual 61, 3) := by decide +kernel
theorem dX7_measureFrom_16 : decode cX7_measureFrom 16 = .ok (.istore 4, 2) := by decide +kernel
theorem dX7_measureFrom_18 : decode cX7_measureFrom 18 = .ok (.iload 4, 2) := by decide +kernel
theorem dX7_measureFrom_20 : decode cX7_measureFrom 20 = .ok (.iconst (-1), 1) := by decide +kernel
theorem dX7_measureFrom_21 : decode cX7_measureFrom 21 = .ok (.if_icmp .ne 4, 3) := by decide +kernel
theorem dX7_measureFrom_24 : decode cX7_measureFrom 24 = .ok (.return_, 1) := by decide +kernel
theorem dX7_measureFrom_25 : decode cX7_measureFrom 25 = .ok (.iload_n 2, 1) := by decide +kernel
theorem dX7_measureFrom_26 : decode cX7_measureFrom 26 = .ok (.iconst 1, 1) := by decide +kernel
theorem dX7_measureFrom_27 : decode cX7_measureFrom 27 = .ok (.iload 4, 2) := by decide +kernel
theorem dX7_measureFrom_29 : decode cX7_measureFrom 29 = .ok (.ishl, 1) := by decide +kernel
theorem dX7_measureFrom_30 : decode cX7_measureFrom 30 = .ok (.ior, 1) := by decide +kernel
theorem dX7_measureFrom_31 : decode cX7_measureFrom 31 = .ok (.istore_n 2, 1) := by decide +kernel
theorem dX7_measureFrom_32 : decode cX7_measureFrom 32 = .ok (.iconst 0, 1) := by decide +kernel
theorem dX7_measureFrom_33 : decode cX7_measureFrom 33 = .ok (.istore 5, 2) := by decide +kernel
theorem dX7_measureFrom_35 : decode cX7_measureFrom 35 = .ok (.iload 5, 2) := by decide +kernel
theorem dX7_measureFrom_37 : decode cX7_measureFrom 37 = .ok (.bipush 10, 2) := by decide +kernel
theorem dX7_measureFrom_39 : decode cX7_measureFrom 39 = .ok (.if_icmp .ge 60, 3) := by decide +kernel
theorem dX7_measureFrom_42 : decode cX7_measureFrom 42 = .ok (.aload_n 0, 1) := by decide +kernel
theorem dX7_measureFrom_43 : decode cX7_measureFrom 43 = .ok (.getfield 20, 3) := by decide +kernel
theorem dX7_measureFrom_46 : decode cX7_measureFrom 46 = .ok (.iload_n 1, 1) := by decide +kernel
theorem dX7_measureFrom_47 : decode cX7_measureFrom 47 = .ok (.iload 4, 2) := by decide +kernel
theorem dX7_measureFrom_49 : decode cX7_measureFrom 49 = .ok (.invokevirtual 48, 3) := by decide +kernel
theorem dX7_measureFrom_52 : decode cX7_measureFrom 52 = .ok (.aload_n 0, 1) := by decide +kernel
theorem dX7_measureFrom_53 : decode cX7_measureFrom 53 = .ok (.getfield 14, 3) := by decide +kernel
theorem dX7_measureFrom_56 : decode cX7_measureFrom 56 = .ok (.iload 4, 2) := by decide +kernel
theorem dX7_measureFrom_58 : decode cX7_measureFrom 58 = .ok (.iload 5, 2) := by decide +kernel
theorem dX7_measureFrom_60 : decode cX7_measureFrom 60 = .ok (.invokevirtual 48, 3) := by decide +kernel
theorem dX7_measureFrom_63 : decode cX7_measureFrom 63 = .ok (.iadd, 1) := by decide +kernel
theorem dX7_measureFrom_64 : decode cX7_measureFrom 64 = .ok (.istore 6, 2) := by decide +kernel
theorem dX7_measureFrom_66 : decode cX7_measureFrom 66 = .ok (.iload 6, 2) := by decide +kernel
theorem dX7_measureFrom_68 : decode cX7_measureFrom 68 = .ok (.aload_n 0, 1) := by decide +kernel
theorem dX7_measureFrom_69 : decode cX7_measureFrom 69 = .ok (.getfield 20, 3) := by decide +kernel
theorem dX7_measureFrom_72 : decode cX7_measureFrom 72 = .ok (.iload_n 1, 1) := by decide +kernel
theorem dX7_measureFrom_73 : decode cX7_measureFrom 73 = .ok (.iload 5, 2) := by decide +kernel
theorem dX7_measureFrom_75 : decode cX7_measureFrom 75 = .ok (.invokevirtual 48, 3) := by decide +kernel
theorem dX7_measureFrom_78 : decode cX7_measureFrom 78 = .ok (.if_icmp .ge 15, 3) := by decide +kernel
theorem dX7_measureFrom_81 : decode cX7_measureFrom 81 = .ok (.aload_n 0, 1) := by decide +kernel
theorem dX7_measureFrom_82 : decode cX7_measureFrom 82 = .ok (.getfield 20, 3) := by decide +kernel
theorem dX7_measureFrom_85 : decode cX7_measureFrom 85 = .ok (.iload_n 1, 1) := by decide +kernel
theorem dX7_measureFrom_86 : decode cX7_measureFrom 86 = .ok (.iload 5, 2) := by decide +kernel
theorem dX7_measureFrom_88 : decode cX7_measureFrom 88 = .ok (.iload 6, 2) := by decide +kernel
theorem dX7_measureFrom_90 : decode cX7_measureFrom 90 = .ok (.invokevirtual 26, 3) := by decide +kernel
theorem dX7_measureFrom_93 : decode cX7_measureFrom 93 = .ok (.iinc 5 1, 3) := by decide +kernel
theorem dX7_measureFrom_96 : decode cX7_measureFrom 96 = .ok (.goto (-61), 3) := by decide +kernel
theorem dX7_measureFrom_99 : decode cX7_measureFrom 99 = .ok (.iinc 3 1, 3) := by decide +kernel
theorem dX7_measureFrom_102 : decode cX7_measureFrom 102 = .ok (.goto (-98), 3) := by decide +kernel
theorem dX7_measureFrom_105 : decode cX7_measureFrom 105 = .ok (.return_, 1) := by decide +kernel
theorem dX7_nearestNotTaken_0 : decode cX7_nearestNotTaken 0 = .ok (.iconst (-1), 1) := by decide +kernel
theorem dX7_nearestNotTaken_1 : decode cX7_nearestNotTaken 1 = .ok (.istore_n 3, 1) := by decide +kernel
theorem dX7_nearestNotTaken_2 : decode cX7_nearestNotTaken 2 = .ok (.ldc 64, 2) := by decide +kernel
theorem dX7_nearestNotTaken_4 : decode cX7_nearestNotTaken 4 = .ok (.istore 4, 2) := by decide +kernel
theorem dX7_nearestNotTaken_6 : decode cX7_nearestNotTaken 6 = .ok (.iconst 0, 1) := by decide +kernel
theorem dX7_nearestNotTaken_7 : decode cX7_nearestNotTaken 7 = .ok (.istore 5, 2) := by decide +kernel
theorem dX7_nearestNotTaken_9 : decode cX7_nearestNotTaken 9 = .ok (.iload 5, 2) := by decide +kernel
theorem dX7_nearestNotTaken_11 : decode cX7_nearestNotTaken 11 = .ok (.bipush 10, 2) := by decide +kernel
theorem dX7_nearestNotTaken_13 : decode cX7_nearestNotTaken 13 = .ok (.if_icmp .ge 48, 3) := by decide +kernel
theorem dX7_nearestNotTaken_16 : decode cX7_nearestNotTaken 16 = .ok (.iload_n 2, 1) := by decide +kernel
theorem dX7_nearestNotTaken_17 : decode cX7_nearestNotTaken 17 = .ok (.iload 5, 2) := by decide +kernel
theorem dX7_nearestNotTaken_19 : decode cX7_nearestNotTaken 19 = .ok (.ishr, 1) := by decide +kernel
theorem dX7_nearestNotTaken_20 : decode cX7_nearestNotTaken 20 = .ok (.iconst 1, 1) := by decide +kernel
theorem dX7_nearestNotTaken_21 : decode cX7_nearestNotTaken 21 = .ok (.iand, 1) := by decide +kernel
theorem dX7_nearestNotTaken_22 : decode cX7_nearestNotTaken 22 = .ok (.ifCond .ne 33, 3) := by decide +kernel
theorem dX7_nearestNotTaken_25 : decode cX7_nearestNotTaken 25 = .ok (.aload_n 0, 1) := by decide +kernel
theorem dX7_nearestNotTaken_26 : decode cX7_nearestNotTaken 26 = .ok (.getfield 20, 3) := by decide +kernel
theorem dX7_nearestNotTaken_29 : decode cX7_nearestNotTaken 29 = .ok (.iload_n 1, 1) := by decide +kernel
theorem dX7_nearestNotTaken_30 : decode cX7_nearestNotTaken 30 = .ok (.iload 5, 2) := by decide +kernel
theorem dX7_nearestNotTaken_32 : decode cX7_nearestNotTaken 32 = .ok (.invokevirtual 48, 3) := by decide +kernel
theorem dX7_nearestNotTaken_35 : decode cX7_nearestNotTaken 35 = .ok (.iload 4, 2) := by decide +kernel
theorem dX7_nearestNotTaken_37 : decode cX7_nearestNotTaken 37 = .ok (.if_icmp .ge 18, 3) := by decide +kernel
theorem dX7_nearestNotTaken_40 : decode cX7_nearestNotTaken 40 = .ok (.iload 5, 2) := by decide +kernel
theorem dX7_nearestNotTaken_42 : decode cX7_nearestNotTaken 42 = .ok (.istore_n 3, 1) := by decide +kernel
theorem dX7_nearestNotTaken_43 : decode cX7_nearestNotTaken 43 = .ok (.aload_n 0, 1) := by decide +kernel
theorem dX7_nearestNotTaken_44 : decode cX7_nearestNotTaken 44 = .ok (.getfield 20, 3) := by decide +kernel
theorem dX7_nearestNotTaken_47 : decode cX7_nearestNotTaken 47 = .ok (.iload_n 1, 1) := by decide +kernel
theorem dX7_nearestNotTaken_48 : decode cX7_nearestNotTaken 48 = .ok (.iload 5, 2) := by decide +kernel
theorem dX7_nearestNotTaken_50 : decode cX7_nearestNotTaken 50 = .ok (.invokevirtual 48, 3) := by decide +kernel
theorem dX7_nearestNotTaken_53 : decode cX7_nearestNotTaken 53 = .ok (.istore 4, 2) := by decide +kernel
theorem dX7_nearestNotTaken_55 : decode cX7_nearestNotTaken 55 = .ok (.iinc 5 1, 3) := by decide +kernel
theorem dX7_nearestNotTaken_58 : decode cX7_nearestNotTaken 58 = .ok (.goto (-49), 3) := by decide +kernel
theorem dX7_nearestNotTaken_61 : decode cX7_nearestNotTaken 61 = .ok (.iload_n 3, 1) := by decide +kernel
theorem dX7_nearestNotTaken_62 : decode cX7_nearestNotTaken 62 = .ok (.ireturn, 1) := by decide +kernel
theorem dX7_leastByRounds_0 : decode cX7_leastByRounds 0 = .ok (.iconst 0, 1) := by decide +kernel
theorem dX7_leastByRounds_1 : decode cX7_leastByRounds 1 = .ok (.istore 4, 2) := by decide +kernel
theorem dX7_leastByRounds_3 : decode cX7_leastByRounds 3 = .ok (.iload 4, 2) := by decide +kernel
theorem dX7_leastByRounds_5 : decode cX7_leastByRounds 5 = .ok (.bipush 10, 2) := by decide +kernel
theorem dX7_leastByRounds_7 : decode cX7_leastByRounds 7 = .ok (.if_icmp .ge 31, 3) := by decide +kernel
theorem dX7_leastByRounds_10 : decode cX7_leastByRounds 10 = .ok (.aload_n 0, 1) := by decide +kernel
theorem dX7_leastByRounds_11 : decode cX7_leastByRounds 11 = .ok (.getfield 23, 3) := by decide +kernel
theorem dX7_leastByRounds_14 : decode cX7_leastByRounds 14 = .ok (.iconst 0, 1) := by decide +kernel
theorem dX7_leastByRounds_15 : decode cX7_leastByRounds 15 = .ok (.iload 4, 2) := by decide +kernel
theorem dX7_leastByRounds_17 : decode cX7_leastByRounds 17 = .ok (.iload 4, 2) := by decide +kernel
theorem dX7_leastByRounds_19 : decode cX7_leastByRounds 19 = .ok (.iload_n 2, 1) := by decide +kernel
theorem dX7_leastByRounds_20 : decode cX7_leastByRounds 20 = .ok (.if_icmp .ne 7, 3) := by decide +kernel
theorem dX7_leastByRounds_23 : decode cX7_leastByRounds 23 = .ok (.iconst 0, 1) := by decide +kernel
theorem dX7_leastByRounds_24 : decode cX7_leastByRounds 24 = .ok (.goto 5, 3) := by decide +kernel
theorem dX7_leastByRounds_27 : decode cX7_leastByRounds 27 = .ok (.ldc 64, 2) := by decide +kernel
theorem dX7_leastByRounds_29 : decode cX7_leastByRounds 29 = .ok (.invokevirtual 26, 3) := by decide +kernel
theorem dX7_leastByRounds_32 : decode cX7_leastByRounds 32 = .ok (.iinc 4 1, 3) := by decide +kernel
theorem dX7_leastByRounds_35 : decode cX7_leastByRounds 35 = .ok (.goto (-32), 3) := by decide +kernel
theorem dX7_leastByRounds_38 : decode cX7_leastByRounds 38 = .ok (.iconst 1, 1) := by decide +kernel
theorem dX7_leastByRounds_39 : decode cX7_leastByRounds 39 = .ok (.istore 4, 2) := by decide +kernel
theorem dX7_leastByRounds_41 : decode cX7_leastByRounds 41 = .ok (.iconst 0, 1) := by decide +kernel
theorem dX7_leastByRounds_42 : decode cX7_leastByRounds 42 = .ok (.istore 5, 2) := by decide +kernel
theorem dX7_leastByRounds_44 : decode cX7_leastByRounds 44 = .ok (.iload 4, 2) := by decide +kernel
theorem dX7_leastByRounds_46 : decode cX7_leastByRounds 46 = .ok (.ifCond .eq 75, 3) := by decide +kernel
theorem dX7_leastByRounds_49 : decode cX7_leastByRounds 49 = .ok (.iload 5, 2) := by decide +kernel
theorem dX7_leastByRounds_51 : decode cX7_leastByRounds 51 = .ok (.bipush 10, 2) := by decide +kernel
theorem dX7_leastByRounds_53 : decode cX7_leastByRounds 53 = .ok (.if_icmp .ge 68, 3) := by decide +kernel
theorem dX7_leastByRounds_56 : decode cX7_leastByRounds 56 = .ok (.iconst 0, 1) := by decide +kernel
theorem dX7_leastByRounds_57 : decode cX7_leastByRounds 57 = .ok (.istore 4, 2) := by decide +kernel
theorem dX7_leastByRounds_59 : decode cX7_leastByRounds 59 = .ok (.iconst 0, 1) := by decide +kernel
theorem dX7_leastByRounds_60 : decode cX7_leastByRounds 60 = .ok (.istore 6, 2) := by decide +kernel
theorem dX7_leastByRounds_62 : decode cX7_leastByRounds 62 = .ok (.iload 6, 2) := by decide +kernel
theorem dX7_leastByRounds_64 : decode cX7_leastByRounds 64 = .ok (.aload_n 1, 1) := by decide +kernel
theorem dX7_leastByRounds_65 : decode cX7_leastByRounds 65 = .ok (.invokevirtual 65, 3) := by decide +kernel
theorem dX7_leastByRounds_68 : decode cX7_leastByRounds 68 = .ok (.if_icmp .ge 47, 3) := by decide +kernel
theorem dX7_leastByRounds_71 : decode cX7_leastByRounds 71 = .ok (.aload_n 1, 1) := by decide +kernel
theorem dX7_leastByRounds_72 : decode cX7_leastByRounds 72 = .ok (.iload 6, 2) := by decide +kernel
theorem dX7_leastByRounds_74 : decode cX7_leastByRounds 74 = .ok (.invokevirtual 71, 3) := by decide +kernel
theorem dX7_leastByRounds_77 : decode cX7_leastByRounds 77 = .ok (.checkcast 31, 3) := by decide +kernel
theorem dX7_leastByRounds_80 : decode cX7_leastByRounds 80 = .ok (.astore 7, 2) := by decide +kernel
theorem dX7_leastByRounds_82 : decode cX7_leastByRounds 82 = .ok (.aload_n 0, 1) := by decide +kernel
theorem dX7_leastByRounds_83 : decode cX7_leastByRounds 83 = .ok (.aload 7, 2) := by decide +kernel
theorem dX7_leastByRounds_85 : decode cX7_leastByRounds 85 = .ok (.getfield 30, 3) := by decide +kernel
theorem dX7_leastByRounds_88 : decode cX7_leastByRounds 88 = .ok (.invokevirtual 75, 3) := by decide +kernel
theorem dX7_leastByRounds_91 : decode cX7_leastByRounds 91 = .ok (.ifCond .ne 15, 3) := by decide +kernel
theorem dX7_leastByRounds_94 : decode cX7_leastByRounds 94 = .ok (.aload_n 0, 1) := by decide +kernel
theorem dX7_leastByRounds_95 : decode cX7_leastByRounds 95 = .ok (.aload 7, 2) := by decide +kernel
theorem dX7_leastByRounds_97 : decode cX7_leastByRounds 97 = .ok (.getfield 79, 3) := by decide +kernel
theorem dX7_leastByRounds_100 : decode cX7_leastByRounds 100 = .ok (.invokevirtual 75, 3) := by decide +kernel
theorem dX7_leastByRounds_103 : decode cX7_leastByRounds 103 = .ok (.ifCond .eq 6, 3) := by decide +kernel
theorem dX7_leastByRounds_106 : decode cX7_leastByRounds 106 = .ok (.iconst 1, 1) := by decide +kernel
theorem dX7_leastByRounds_107 : decode cX7_leastByRounds 107 = .ok (.istore 4, 2) := by decide +kernel
theorem dX7_leastByRounds_109 : decode cX7_leastByRounds 109 = .ok (.iinc 6 1, 3) := by decide +kernel
theorem dX7_leastByRounds_112 : decode cX7_leastByRounds 112 = .ok (.goto (-50), 3) := by decide +kernel
theorem dX7_leastByRounds_115 : decode cX7_leastByRounds 115 = .ok (.iinc 5 1, 3) := by decide +kernel
theorem dX7_leastByRounds_118 : decode cX7_leastByRounds 118 = .ok (.goto (-74), 3) := by decide +kernel
theorem dX7_leastByRounds_121 : decode cX7_leastByRounds 121 = .ok (.aload_n 0, 1) := by decide +kernel
theorem dX7_leastByRounds_122 : decode cX7_leastByRounds 122 = .ok (.getfield 23, 3) := by decide +kernel
theorem dX7_leastByRounds_125 : decode cX7_leastByRounds 125 = .ok (.iconst 0, 1) := by decide +kernel
theorem dX7_leastByRounds_126 : decode cX7_leastByRounds 126 = .ok (.iload_n 3, 1) := by decide +kernel
theorem dX7_leastByRounds_127 : decode cX7_leastByRounds 127 = .ok (.invokevirtual 48, 3) := by decide +kernel
theorem dX7_leastByRounds_130 : decode cX7_leastByRounds 130 = .ok (.ireturn, 1) := by decide +kernel
theorem dX7_reachBy_0 : decode cX7_reachBy 0 = .ok (.aload_n 0, 1) := by decide +kernel
theorem dX7_reachBy_1 : decode cX7_reachBy 1 = .ok (.getfield 23, 3) := by decide +kernel
theorem dX7_reachBy_4 : decode cX7_reachBy 4 = .ok (.iconst 0, 1) := by decide +kernel
theorem dX7_reachBy_5 : decode cX7_reachBy 5 = .ok (.aload_n 1, 1) := by decide +kernel
theorem dX7_reachBy_6 : decode cX7_reachBy 6 = .ok (.getfield 40, 3) := by decide +kernel
theorem dX7_reachBy_9 : decode cX7_reachBy 9 = .ok (.invokevirtual 48, 3) := by decide +kernel
theorem dX7_reachBy_12 : decode cX7_reachBy 12 = .ok (.aload_n 1, 1) := by decide +kernel
theorem dX7_reachBy_13 : decode cX7_reachBy 13 = .ok (.getfield 82, 3) := by decide +kernel
theorem dX7_reachBy_16 : decode cX7_reachBy 16 = .ok (.iadd, 1) := by decide +kernel
theorem dX7_reachBy_17 : decode cX7_reachBy 17 = .ok (.istore_n 2, 1) := by decide +kernel
theorem dX7_reachBy_18 : decode cX7_reachBy 18 = .ok (.iload_n 2, 1) := by decide +kernel
theorem dX7_reachBy_19 : decode cX7_reachBy 19 = .ok (.aload_n 0, 1) := by decide +kernel
theorem dX7_reachBy_20 : decode cX7_reachBy 20 = .ok (.getfield 23, 3) := by decide +kernel
theorem dX7_reachBy_23 : decode cX7_reachBy 23 = .ok (.iconst 0, 1) := by decide +kernel
theorem dX7_reachBy_24 : decode cX7_reachBy 24 = .ok (.aload_n 1, 1) := by decide +kernel
theorem dX7_reachBy_25 : decode cX7_reachBy 25 = .ok (.getfield 45, 3) := by decide +kernel
theorem dX7_reachBy_28 : decode cX7_reachBy 28 = .ok (.invokevirtual 48, 3) := by decide +kernel
theorem dX7_reachBy_31 : decode cX7_reachBy 31 = .ok (.if_icmp .lt 5, 3) := by decide +kernel
theorem dX7_reachBy_34 : decode cX7_reachBy 34 = .ok (.iconst 0, 1) := by decide +kernel
theorem dX7_reachBy_35 : decode cX7_reachBy 35 = .ok (.ireturn, 1) := by decide +kernel
theorem dX7_reachBy_36 : decode cX7_reachBy 36 = .ok (.aload_n 0, 1) := by decide +kernel
theorem dX7_reachBy_37 : decode cX7_reachBy 37 = .ok (.getfield 23, 3) := by decide +kernel
theorem dX7_reachBy_40 : decode cX7_reachBy 40 = .ok (.iconst 0, 1) := by decide +kernel
theorem dX7_reachBy_41 : decode cX7_reachBy 41 = .ok (.aload_n 1, 1) := by decide +kernel
theorem dX7_reachBy_42 : decode cX7_reachBy 42 = .ok (.getfield 45, 3) := by decide +kernel
theorem dX7_reachBy_45 : decode cX7_reachBy 45 = .ok (.iload_n 2, 1) := by decide +kernel
theorem dX7_reachBy_46 : decode cX7_reachBy 46 = .ok (.invokevirtual 26, 3) := by decide +kernel
theorem dX7_reachBy_49 : decode cX7_reachBy 49 = .ok (.iconst 1, 1) := by decide +kernel
theorem dX7_reachBy_50 : decode cX7_reachBy 50 = .ok (.ireturn, 1) := by decide +kernel
theorem dX7_nextPlace_0 : decode cX7_nextPlace 0 = .ok (.iconst 0, 1) := by decide +kernel
theorem dX7_nextPlace_1 : decode cX7_nextPlace 1 = .ok (.istore_n 3, 1) := by decide +kernel
theorem dX7_nextPlace_2 : decode cX7_nextPlace 2 = .ok (.iload_n 3, 1) := by decide +kernel
theorem dX7_nextPlace_3 : decode cX7_nextPlace 3 = .ok (.bipush 10, 2) := by decide +kernel
theorem dX7_nextPlace_5 : decode cX7_nextPlace 5 = .ok (.if_icmp .ge 42, 3) := by decide +kernel
theorem dX7_nextPlace_8 : decode cX7_nextPlace 8 = .ok (.aload_n 0, 1) := by decide +kernel
theorem dX7_nextPlace_9 : decode cX7_nextPlace 9 = .ok (.getfield 14, 3) := by decide +kernel
theorem dX7_nextPlace_12 : decode cX7_nextPlace 12 = .ok (.iload_n 1, 1) := by decide +kernel
theorem dX7_nextPlace_13 : decode cX7_nextPlace 13 = .ok (.iload_n 3, 1) := by decide +kernel
theorem dX7_nextPlace_14 : decode cX7_nextPlace 14 = .ok (.invokevirtual 48, 3) := by decide +kernel
theorem dX7_nextPlace_17 : decode cX7_nextPlace 17 = .ok (.aload_n 0, 1) := by decide +kernel
theorem dX7_nextPlace_18 : decode cX7_nextPlace 18 = .ok (.getfield 20, 3) := by decide +kernel
theorem dX7_nextPlace_21 : decode cX7_nextPlace 21 = .ok (.iload_n 3, 1) := by decide +kernel
theorem dX7_nextPlace_22 : decode cX7_nextPlace 22 = .ok (.iload_n 2, 1) := by decide +kernel
theorem dX7_nextPlace_23 : decode cX7_nextPlace 23 = .ok (.invokevirtual 48, 3) := by decide +kernel
theorem dX7_nextPlace_26 : decode cX7_nextPlace 26 = .ok (.iadd, 1) := by decide +kernel
theorem dX7_nextPlace_27 : decode cX7_nextPlace 27 = .ok (.aload_n 0, 1) := by decide +kernel
theorem dX7_nextPlace_28 : decode cX7_nextPlace 28 = .ok (.getfield 20, 3) := by decide +kernel
theorem dX7_nextPlace_31 : decode cX7_nextPlace 31 = .ok (.iload_n 1, 1) := by decide +kernel
theorem dX7_nextPlace_32 : decode cX7_nextPlace 32 = .ok (.iload_n 2, 1) := by decide +kernel
theorem dX7_nextPlace_33 : decode cX7_nextPlace 33 = .ok (.invokevirtual 48, 3) := by decide +kernel
theorem dX7_nextPlace_36 : decode cX7_nextPlace 36 = .ok (.if_icmp .ne 5, 3) := by decide +kernel
theorem dX7_nextPlace_39 : decode cX7_nextPlace 39 = .ok (.iload_n 3, 1) := by decide +kernel
theorem dX7_nextPlace_40 : decode cX7_nextPlace 40 = .ok (.ireturn, 1) := by decide +kernel
theorem dX7_nextPlace_41 : decode cX7_nextPlace 41 = .ok (.iinc 3 1, 3) := by decide +kernel
theorem dX7_nextPlace_44 : decode cX7_nextPlace 44 = .ok (.goto (-42), 3) := by decide +kernel
theorem dX7_nextPlace_47 : decode cX7_nextPlace 47 = .ok (.iload_n 2, 1) := by decide +kernel
theorem dX7_nextPlace_48 : decode cX7_nextPlace 48 = .ok (.ireturn, 1) := by decide +kernel
theorem dJ9_max_7cf53_0 : decode cJ9_max_7cf53 0 = .ok (.iload_n 0, 1) := by decide +kernel
theorem dJ9_max_7cf53_1 : decode cJ9_max_7cf53 1 = .ok (.iload_n 1, 1) := by decide +kernel
theorem dJ9_max_7cf53_2 : decode cJ9_max_7cf53 2 = .ok (.if_icmp .lt 7, 3) := by decide +kernel
theorem dJ9_max_7cf53_5 : decode cJ9_max_7cf53 5 = .ok (.iload_n 0, 1) := by decide +kernel
theorem dJ9_max_7cf53_6 : decode cJ9_max_7cf53 6 = .ok (.goto 4, 3) := by decide +kernel
theorem dJ9_max_7cf53_9 : decode cJ9_max_7cf53 9 = .ok (.iload_n 1, 1) := by decide +kernel
theorem dJ9_max_7cf53_10 : decode cJ9_max_7cf53 10 = .ok (.ireturn, 1) := by decide +kernel
theorem dJ9_min_7cf53_0 : decode cJ9_min_7cf53 0 = .ok (.iload_n 0, 1) := by decide +kernel
theorem dJ9_min_7cf53_1 : decode cJ9_min_7cf53 1 = .ok (.iload_n 1, 1) := by decide +kernel
theorem dJ9_min_7cf53_2 : decode cJ9_min_7cf53 2 = .ok (.if_icmp .gt 7, 3) := by decide +kernel
theorem dJ9_min_7cf53_5 : decode cJ9_min_7cf53 5 = .ok (.iload_n 0, 1) := by decide +kernel
theorem dJ9_min_7cf53_6 : decode cJ9_min_7cf53 6 = .ok (.goto 4, 3) := by decide +kernel
theorem dJ9_min_7cf53_9 : decode cJ9_min_7cf53 9 = .ok (.iload_n 1, 1) := by decide +kernel
theorem dJ9_min_7cf53_10 : decode cJ9_min_7cf53 10 = .ok (.ireturn, 1) := by decide +kernel
theorem dJxa1e45_init_da8c8_0 : decode cJxa1e45_init_da8c8 0 = .ok (.aload_n 0, 1) := by decide +kernel
theorem dJxa1e45_init_da8c8_1 : decode cJxa1e45_init_da8c8 1 = .ok (.invokespecial 1, 3) := by decide +kernel
theorem dJxa1e45_init_da8c8_4 : decode cJxa1e45_init_da8c8 4 = .ok (.return_, 1) := by decide +kernel
theorem dJxc12de_init_da8c8_0 : decode cJxc12de_init_da8c8 0 = .ok (.aload_n 0, 1) := by decide +kernel
theorem dJxc12de_init_da8c8_1 : decode cJxc12de_init_da8c8 1 = .ok (.invokespecial 1, 3) := by decide +kernel
theorem dJxc12de_init_da8c8_4 : decode cJxc12de_init_da8c8 4 = .ok (.aload_n 0, 1) := by decide +kernel
theorem dJxc12de_init_da8c8_5 : decode cJxc12de_init_da8c8 5 = .ok (.iconst 0, 1) := by decide +kernel
theorem dJxc12de_init_da8c8_6 : decode cJxc12de_init_da8c8 6 = .ok (.putfield 7, 3) := by decide +kernel
theorem dJxc12de_init_da8c8_9 : decode cJxc12de_init_da8c8 9 = .ok (.return_, 1) := by decide +kernel
theorem dJx4a65c_init_da8c8_0 : decode cJx4a65c_init_da8c8 0 = .ok (.aload_n 0, 1) := by decide +kernel
theorem dJx4a65c_init_da8c8_1 : decode cJx4a65c_init_da8c8 1 = .ok (.invokespecial 1, 3) := by decide +kernel
theorem dJx4a65c_init_da8c8_4 : decode cJx4a65c_init_da8c8 4 = .ok (.aload_n 0, 1) := by decide +kernel
theorem dJx4a65c_init_da8c8_5 : decode cJx4a65c_init_da8c8 5 = .ok (.getstatic 39, 3) := by decide +kernel
theorem dJx4a65c_init_da8c8_8 : decode cJx4a65c_init_da8c8 8 = .ok (.putfield 9, 3) := by decide +kernel
theorem dJx4a65c_init_da8c8_11 : decode cJx4a65c_init_da8c8 11 = .ok (.return_, 1) := by decide +kernel
theorem dJx4a65c_grow_92f84_0 : decode cJx4a65c_grow_92f84 0 = .ok (.aload_n 0, 1) := by decide +kernel
theorem dJx4a65c_grow_92f84_1 : decode cJx4a65c_grow_92f84 1 = .ok (.getfield 9, 3) := by decide +kernel
theorem dJx4a65c_grow_92f84_4 : decode cJx4a65c_grow_92f84 4 = .ok (.arraylength, 1) := by decide +kernel
theorem dJx4a65c_grow_92f84_5 : decode cJx4a65c_grow_92f84 5 = .ok (.istore_n 2, 1) := by decide +kernel
theorem dJx4a65c_grow_92f84_6 : decode cJx4a65c_grow_92f84 6 = .ok (.iload_n 2, 1) := by decide +kernel
theorem dJx4a65c_grow_92f84_7 : decode cJx4a65c_grow_92f84 7 = .ok (.ifCond .gt 13, 3) := by decide +kernel
theorem dJx4a65c_grow_92f84_10 : decode cJx4a65c_grow_92f84 10 = .ok (.aload_n 0, 1) := by decide +kernel
theorem dJx4a65c_grow_92f84_11 : decode cJx4a65c_grow_92f84 11 = .ok (.getfield 9, 3) := by decide +kernel
theorem dJx4a65c_grow_92f84_14 : decode cJx4a65c_grow_92f84 14 = .ok (.getstatic 39, 3) := by decide +kernel
theorem dJx4a65c_grow_92f84_17 : decode cJx4a65c_grow_92f84 17 = .ok (.if_acmp .eq 28, 3) := by decide +kernel
theorem dJx4a65c_grow_92f84_20 : decode cJx4a65c_grow_92f84 20 = .ok (.iload_n 2, 1) := by decide +kernel
theorem dJx4a65c_grow_92f84_21 : decode cJx4a65c_grow_92f84 21 = .ok (.iload_n 1, 1) := by decide +kernel
theorem dJx4a65c_grow_92f84_22 : decode cJx4a65c_grow_92f84 22 = .ok (.iload_n 2, 1) := by decide +kernel
theorem dJx4a65c_grow_92f84_23 : decode cJx4a65c_grow_92f84 23 = .ok (.isub, 1) := by decide +kernel
theorem dJx4a65c_grow_92f84_24 : decode cJx4a65c_grow_92f84 24 = .ok (.iload_n 2, 1) := by decide +kernel
theorem dJx4a65c_grow_92f84_25 : decode cJx4a65c_grow_92f84 25 = .ok (.iconst 1, 1) := by decide +kernel
theorem dJx4a65c_grow_92f84_26 : decode cJx4a65c_grow_92f84 26 = .ok (.ishr, 1) := by decide +kernel
theorem dJx4a65c_grow_92f84_27 : decode cJx4a65c_grow_92f84 27 = .ok (.invokestatic 73, 3) := by decide +kernel
theorem dJx4a65c_grow_92f84_30 : decode cJx4a65c_grow_92f84 30 = .ok (.istore_n 3, 1) := by decide +kernel
theorem dJx4a65c_grow_92f84_31 : decode cJx4a65c_grow_92f84 31 = .ok (.aload_n 0, 1) := by decide +kernel
theorem dJx4a65c_grow_92f84_32 : decode cJx4a65c_grow_92f84 32 = .ok (.aload_n 0, 1) := by decide +kernel
theorem dJx4a65c_grow_92f84_33 : decode cJx4a65c_grow_92f84 33 = .ok (.getfield 9, 3) := by decide +kernel
theorem dJx4a65c_grow_92f84_36 : decode cJx4a65c_grow_92f84 36 = .ok (.iload_n 3, 1) := by decide +kernel
theorem dJx4a65c_grow_92f84_37 : decode cJx4a65c_grow_92f84 37 = .ok (.invokestatic 66, 3) := by decide +kernel
theorem dJx4a65c_grow_92f84_40 : decode cJx4a65c_grow_92f84 40 = .ok (.dup_x1, 1) := by decide +kernel
theorem dJx4a65c_grow_92f84_41 : decode cJx4a65c_grow_92f84 41 = .ok (.putfield 9, 3) := by decide +kernel
theorem dJx4a65c_grow_92f84_44 : decode cJx4a65c_grow_92f84 44 = .ok (.areturn, 1) := by decide +kernel
theorem dJx4a65c_grow_92f84_45 : decode cJx4a65c_grow_92f84 45 = .ok (.aload_n 0, 1) := by decide +kernel
theorem dJx4a65c_grow_92f84_46 : decode cJx4a65c_grow_92f84 46 = .ok (.bipush 10, 2) := by decide +kernel
theorem dJx4a65c_grow_92f84_48 : decode cJx4a65c_grow_92f84 48 = .ok (.iload_n 1, 1) := by decide +kernel
theorem dJx4a65c_grow_92f84_49 : decode cJx4a65c_grow_92f84 49 = .ok (.invokestatic 79, 3) := by decide +kernel
theorem dJx4a65c_grow_92f84_52 : decode cJx4a65c_grow_92f84 52 = .ok (.anewarray 7, 3) := by decide +kernel
theorem dJx4a65c_grow_92f84_55 : decode cJx4a65c_grow_92f84 55 = .ok (.dup_x1, 1) := by decide +kernel
theorem dJx4a65c_grow_92f84_56 : decode cJx4a65c_grow_92f84 56 = .ok (.putfield 9, 3) := by decide +kernel
theorem dJx4a65c_grow_92f84_59 : decode cJx4a65c_grow_92f84 59 = .ok (.areturn, 1) := by decide +kernel
theorem dJx4a65c_grow_d5877_0 : decode cJx4a65c_grow_d5877 0 = .ok (.aload_n 0, 1) := by decide +kernel
theorem dJx4a65c_grow_d5877_1 : decode cJx4a65c_grow_d5877 1 = .ok (.aload_n 0, 1) := by decide +kernel
theorem dJx4a65c_grow_d5877_2 : decode cJx4a65c_grow_d5877 2 = .ok (.getfield 48, 3) := by decide +kernel
theorem dJx4a65c_grow_d5877_5 : decode cJx4a65c_grow_d5877 5 = .ok (.iconst 1, 1) := by decide +kernel
theorem dJx4a65c_grow_d5877_6 : decode cJx4a65c_grow_d5877 6 = .ok (.iadd, 1) := by decide +kernel
theorem dJx4a65c_grow_d5877_7 : decode cJx4a65c_grow_d5877 7 = .ok (.invokevirtual 69, 3) := by decide +kernel
theorem dJx4a65c_grow_d5877_10 : decode cJx4a65c_grow_d5877 10 = .ok (.areturn, 1) := by decide +kernel
theorem dJx4a65c_size_8abf5_0 : decode cJx4a65c_size_8abf5 0 = .ok (.aload_n 0, 1) := by decide +kernel
theorem dJx4a65c_size_8abf5_1 : decode cJx4a65c_size_8abf5 1 = .ok (.getfield 48, 3) := by decide +kernel
theorem dJx4a65c_size_8abf5_4 : decode cJx4a65c_size_8abf5 4 = .ok (.ireturn, 1) := by decide +kernel
theorem dJx4a65c_elementData_915e3_0 : decode cJx4a65c_elementData_915e3 0 = .ok (.aload_n 0, 1) := by decide +kernel
theorem dJx4a65c_elementData_915e3_1 : decode cJx4a65c_elementData_915e3 1 = .ok (.getfield 9, 3) := by decide +kernel
theorem dJx4a65c_elementData_915e3_4 : decode cJx4a65c_elementData_915e3 4 = .ok (.iload_n 1, 1) := by decide +kernel
theorem dJx4a65c_elementData_915e3_5 : decode cJx4a65c_elementData_915e3 5 = .ok (.aaload, 1) := by decide +kernel
theorem dJx4a65c_elementData_915e3_6 : decode cJx4a65c_elementData_915e3 6 = .ok (.areturn, 1) := by decide +kernel
theorem dJx4a65c_get_915e3_0 : decode cJx4a65c_get_915e3 0 = .ok (.iload_n 1, 1) := by decide +kernel
theorem dJx4a65c_get_915e3_1 : decode cJx4a65c_get_915e3 1 = .ok (.aload_n 0, 1) := by decide +kernel
theorem dJx4a65c_get_915e3_2 : decode cJx4a65c_get_915e3 2 = .ok (.getfield 48, 3) := by decide +kernel
theorem dJx4a65c_get_915e3_5 : decode cJx4a65c_get_915e3 5 = .ok (.invokestatic 118, 3) := by decide +kernel
theorem dJx4a65c_get_915e3_8 : decode cJx4a65c_get_915e3 8 = .ok (.pop, 1) := by decide +kernel
theorem dJx4a65c_get_915e3_9 : decode cJx4a65c_get_915e3 9 = .ok (.aload_n 0, 1) := by decide +kernel
theorem dJx4a65c_get_915e3_10 : decode cJx4a65c_get_915e3 10 = .ok (.iload_n 1, 1) := by decide +kernel
theorem dJx4a65c_get_915e3_11 : decode cJx4a65c_get_915e3 11 = .ok (.invokevirtual 123, 3) := by decide +kernel
theorem dJx4a65c_get_915e3_14 : decode cJx4a65c_get_915e3 14 = .ok (.areturn, 1) := by decide +kernel
theorem dJx4a65c_add_72be8_0 : decode cJx4a65c_add_72be8 0 = .ok (.iload_n 3, 1) := by decide +kernel
theorem dJx4a65c_add_72be8_1 : decode cJx4a65c_add_72be8 1 = .ok (.aload_n 2, 1) := by decide +kernel
theorem dJx4a65c_add_72be8_2 : decode cJx4a65c_add_72be8 2 = .ok (.arraylength, 1) := by decide +kernel
theorem dJx4a65c_add_72be8_3 : decode cJx4a65c_add_72be8 3 = .ok (.if_icmp .ne 8, 3) := by decide +kernel
theorem dJx4a65c_add_72be8_6 : decode cJx4a65c_add_72be8 6 = .ok (.aload_n 0, 1) := by decide +kernel
theorem dJx4a65c_add_72be8_7 : decode cJx4a65c_add_72be8 7 = .ok (.invokevirtual 129, 3) := by decide +kernel
theorem dJx4a65c_add_72be8_10 : decode cJx4a65c_add_72be8 10 = .ok (.astore_n 2, 1) := by decide +kernel
theorem dJx4a65c_add_72be8_11 : decode cJx4a65c_add_72be8 11 = .ok (.aload_n 2, 1) := by decide +kernel
theorem dJx4a65c_add_72be8_12 : decode cJx4a65c_add_72be8 12 = .ok (.iload_n 3, 1) := by decide +kernel
theorem dJx4a65c_add_72be8_13 : decode cJx4a65c_add_72be8 13 = .ok (.aload_n 1, 1) := by decide +kernel
theorem dJx4a65c_add_72be8_14 : decode cJx4a65c_add_72be8 14 = .ok (.aastore, 1) := by decide +kernel
theorem dJx4a65c_add_72be8_15 : decode cJx4a65c_add_72be8 15 = .ok (.aload_n 0, 1) := by decide +kernel
theorem dJx4a65c_add_72be8_16 : decode cJx4a65c_add_72be8 16 = .ok (.iload_n 3, 1) := by decide +kernel
theorem dJx4a65c_add_72be8_17 : decode cJx4a65c_add_72be8 17 = .ok (.iconst 1, 1) := by decide +kernel
theorem dJx4a65c_add_72be8_18 : decode cJx4a65c_add_72be8 18 = .ok (.iadd, 1) := by decide +kernel
theorem dJx4a65c_add_72be8_19 : decode cJx4a65c_add_72be8 19 = .ok (.putfield 48, 3) := by decide +kernel
theorem dJx4a65c_add_72be8_22 : decode cJx4a65c_add_72be8 22 = .ok (.return_, 1) := by decide +kernel
theorem dJx4a65c_add_9ea2d_0 : decode cJx4a65c_add_9ea2d 0 = .ok (.aload_n 0, 1) := by decide +kernel
theorem dJx4a65c_add_9ea2d_1 : decode cJx4a65c_add_9ea2d 1 = .ok (.dup, 1) := by decide +kernel
theorem dJx4a65c_add_9ea2d_2 : decode cJx4a65c_add_9ea2d 2 = .ok (.getfield 63, 3) := by decide +kernel
theorem dJx4a65c_add_9ea2d_5 : decode cJx4a65c_add_9ea2d 5 = .ok (.iconst 1, 1) := by decide +kernel
theorem dJx4a65c_add_9ea2d_6 : decode cJx4a65c_add_9ea2d 6 = .ok (.iadd, 1) := by decide +kernel
theorem dJx4a65c_add_9ea2d_7 : decode cJx4a65c_add_9ea2d 7 = .ok (.putfield 63, 3) := by decide +kernel
theorem dJx4a65c_add_9ea2d_10 : decode cJx4a65c_add_9ea2d 10 = .ok (.aload_n 0, 1) := by decide +kernel
theorem dJx4a65c_add_9ea2d_11 : decode cJx4a65c_add_9ea2d 11 = .ok (.aload_n 1, 1) := by decide +kernel
theorem dJx4a65c_add_9ea2d_12 : decode cJx4a65c_add_9ea2d 12 = .ok (.aload_n 0, 1) := by decide +kernel
theorem dJx4a65c_add_9ea2d_13 : decode cJx4a65c_add_9ea2d 13 = .ok (.getfield 9, 3) := by decide +kernel
theorem dJx4a65c_add_9ea2d_16 : decode cJx4a65c_add_9ea2d 16 = .ok (.aload_n 0, 1) := by decide +kernel
theorem dJx4a65c_add_9ea2d_17 : decode cJx4a65c_add_9ea2d 17 = .ok (.getfield 48, 3) := by decide +kernel
theorem dJx4a65c_add_9ea2d_20 : decode cJx4a65c_add_9ea2d 20 = .ok (.invokevirtual 131, 3) := by decide +kernel
theorem dJx4a65c_add_9ea2d_23 : decode cJx4a65c_add_9ea2d 23 = .ok (.iconst 1, 1) := by decide +kernel
theorem dJx4a65c_add_9ea2d_24 : decode cJx4a65c_add_9ea2d 24 = .ok (.ireturn, 1) := by decide +kernel
theorem dJx4a65c_clear_da8c8_0 : decode cJx4a65c_clear_da8c8 0 = .ok (.aload_n 0, 1) := by decide +kernel
theorem dJx4a65c_clear_da8c8_1 : decode cJx4a65c_clear_da8c8 1 = .ok (.dup, 1) := by decide +kernel
theorem dJx4a65c_clear_da8c8_2 : decode cJx4a65c_clear_da8c8 2 = .ok (.getfield 63, 3) := by decide +kernel
theorem dJx4a65c_clear_da8c8_5 : decode cJx4a65c_clear_da8c8 5 = .ok (.iconst 1, 1) := by decide +kernel
theorem dJx4a65c_clear_da8c8_6 : decode cJx4a65c_clear_da8c8 6 = .ok (.iadd, 1) := by decide +kernel
theorem dJx4a65c_clear_da8c8_7 : decode cJx4a65c_clear_da8c8 7 = .ok (.putfield 63, 3) := by decide +kernel
theorem dJx4a65c_clear_da8c8_10 : decode cJx4a65c_clear_da8c8 10 = .ok (.aload_n 0, 1) := by decide +kernel
theorem dJx4a65c_clear_da8c8_11 : decode cJx4a65c_clear_da8c8 11 = .ok (.getfield 9, 3) := by decide +kernel
theorem dJx4a65c_clear_da8c8_14 : decode cJx4a65c_clear_da8c8 14 = .ok (.astore_n 1, 1) := by decide +kernel
theorem dJx4a65c_clear_da8c8_15 : decode cJx4a65c_clear_da8c8 15 = .ok (.aload_n 0, 1) := by decide +kernel
theorem dJx4a65c_clear_da8c8_16 : decode cJx4a65c_clear_da8c8 16 = .ok (.getfield 48, 3) := by decide +kernel
theorem dJx4a65c_clear_da8c8_19 : decode cJx4a65c_clear_da8c8 19 = .ok (.istore_n 2, 1) := by decide +kernel
theorem dJx4a65c_clear_da8c8_20 : decode cJx4a65c_clear_da8c8 20 = .ok (.aload_n 0, 1) := by decide +kernel
theorem dJx4a65c_clear_da8c8_21 : decode cJx4a65c_clear_da8c8 21 = .ok (.iconst 0, 1) := by decide +kernel
theorem dJx4a65c_clear_da8c8_22 : decode cJx4a65c_clear_da8c8 22 = .ok (.dup_x1, 1) := by decide +kernel
theorem dJx4a65c_clear_da8c8_23 : decode cJx4a65c_clear_da8c8 23 = .ok (.putfield 48, 3) := by decide +kernel
theorem dJx4a65c_clear_da8c8_26 : decode cJx4a65c_clear_da8c8 26 = .ok (.istore_n 3, 1) := by decide +kernel
theorem dJx4a65c_clear_da8c8_27 : decode cJx4a65c_clear_da8c8 27 = .ok (.iload_n 3, 1) := by decide +kernel
theorem dJx4a65c_clear_da8c8_28 : decode cJx4a65c_clear_da8c8 28 = .ok (.iload_n 2, 1) := by decide +kernel
theorem dJx4a65c_clear_da8c8_29 : decode cJx4a65c_clear_da8c8 29 = .ok (.if_icmp .ge 13, 3) := by decide +kernel
theorem dJx4a65c_clear_da8c8_32 : decode cJx4a65c_clear_da8c8 32 = .ok (.aload_n 1, 1) := by decide +kernel
theorem dJx4a65c_clear_da8c8_33 : decode cJx4a65c_clear_da8c8 33 = .ok (.iload_n 3, 1) := by decide +kernel
theorem dJx4a65c_clear_da8c8_34 : decode cJx4a65c_clear_da8c8 34 = .ok (.aconst_null, 1) := by decide +kernel
theorem dJx4a65c_clear_da8c8_35 : decode cJx4a65c_clear_da8c8 35 = .ok (.aastore, 1) := by decide +kernel
theorem dJx4a65c_clear_da8c8_36 : decode cJx4a65c_clear_da8c8 36 = .ok (.iinc 3 1, 3) := by decide +kernel
theorem dJx4a65c_clear_da8c8_39 : decode cJx4a65c_clear_da8c8 39 = .ok (.goto (-12), 3) := by decide +kernel
theorem dJx4a65c_clear_da8c8_42 : decode cJx4a65c_clear_da8c8 42 = .ok (.return_, 1) := by decide +kernel
theorem dJ7_fill_53178_0 : decode cJ7_fill_53178 0 = .ok (.iconst 0, 1) := by decide +kernel
theorem dJ7_fill_53178_1 : decode cJ7_fill_53178 1 = .ok (.istore_n 2, 1) := by decide +kernel
theorem dJ7_fill_53178_2 : decode cJ7_fill_53178 2 = .ok (.aload_n 0, 1) := by decide +kernel
theorem dJ7_fill_53178_3 : decode cJ7_fill_53178 3 = .ok (.arraylength, 1) := by decide +kernel
theorem dJ7_fill_53178_4 : decode cJ7_fill_53178 4 = .ok (.istore_n 3, 1) := by decide +kernel
theorem dJ7_fill_53178_5 : decode cJ7_fill_53178 5 = .ok (.iload_n 2, 1) := by decide +kernel
theorem dJ7_fill_53178_6 : decode cJ7_fill_53178 6 = .ok (.iload_n 3, 1) := by decide +kernel
theorem dJ7_fill_53178_7 : decode cJ7_fill_53178 7 = .ok (.if_icmp .ge 13, 3) := by decide +kernel
theorem dJ7_fill_53178_10 : decode cJ7_fill_53178 10 = .ok (.aload_n 0, 1) := by decide +kernel
theorem dJ7_fill_53178_11 : decode cJ7_fill_53178 11 = .ok (.iload_n 2, 1) := by decide +kernel
theorem dJ7_fill_53178_12 : decode cJ7_fill_53178 12 = .ok (.iload_n 1, 1) := by decide +kernel
theorem dJ7_fill_53178_13 : decode cJ7_fill_53178 13 = .ok (.iastore, 1) := by decide +kernel
theorem dJ7_fill_53178_14 : decode cJ7_fill_53178 14 = .ok (.iinc 2 1, 3) := by decide +kernel
theorem dJ7_fill_53178_17 : decode cJ7_fill_53178 17 = .ok (.goto (-12), 3) := by decide +kernel
theorem dJ7_fill_53178_20 : decode cJ7_fill_53178 20 = .ok (.return_, 1) := by decide +kernel
theorem dJ7_copyOf_1904c_0 : decode cJ7_copyOf_1904c 0 = .ok (.aload_n 0, 1) := by decide +kernel
theorem dJ7_copyOf_1904c_1 : decode cJ7_copyOf_1904c 1 = .ok (.iload_n 1, 1) := by decide +kernel
theorem dJ7_copyOf_1904c_2 : decode cJ7_copyOf_1904c 2 = .ok (.aload_n 0, 1) := by decide +kernel
theorem dJ7_copyOf_1904c_3 : decode cJ7_copyOf_1904c 3 = .ok (.invokevirtual 86, 3) := by decide +kernel
theorem dJ7_copyOf_1904c_6 : decode cJ7_copyOf_1904c 6 = .ok (.invokestatic 300, 3) := by decide +kernel
theorem dJ7_copyOf_1904c_9 : decode cJ7_copyOf_1904c 9 = .ok (.areturn, 1) := by decide +kernel
theorem dJ7_copyOf_6403c_0 : decode cJ7_copyOf_6403c 0 = .ok (.aload_n 2, 1) := by decide +kernel
theorem dJ7_copyOf_6403c_1 : decode cJ7_copyOf_6403c 1 = .ok (.ldc 110, 2) := by decide +kernel
theorem dJ7_copyOf_6403c_3 : decode cJ7_copyOf_6403c 3 = .ok (.if_acmp .ne 10, 3) := by decide +kernel
theorem dJ7_copyOf_6403c_6 : decode cJ7_copyOf_6403c 6 = .ok (.iload_n 1, 1) := by decide +kernel
theorem dJ7_copyOf_6403c_7 : decode cJ7_copyOf_6403c 7 = .ok (.anewarray 2, 3) := by decide +kernel
theorem dJ7_copyOf_6403c_10 : decode cJ7_copyOf_6403c 10 = .ok (.goto 14, 3) := by decide +kernel
theorem dJ7_copyOf_6403c_13 : decode cJ7_copyOf_6403c 13 = .ok (.aload_n 2, 1) := by decide +kernel
theorem dJ7_copyOf_6403c_14 : decode cJ7_copyOf_6403c 14 = .ok (.invokevirtual 90, 3) := by decide +kernel
theorem dJ7_copyOf_6403c_17 : decode cJ7_copyOf_6403c 17 = .ok (.iload_n 1, 1) := by decide +kernel
theorem dJ7_copyOf_6403c_18 : decode cJ7_copyOf_6403c 18 = .ok (.invokestatic 95, 3) := by decide +kernel
theorem dJ7_copyOf_6403c_21 : decode cJ7_copyOf_6403c 21 = .ok (.checkcast 110, 3) := by decide +kernel
theorem dJ7_copyOf_6403c_24 : decode cJ7_copyOf_6403c 24 = .ok (.astore_n 3, 1) := by decide +kernel
theorem dJ7_copyOf_6403c_25 : decode cJ7_copyOf_6403c 25 = .ok (.aload_n 0, 1) := by decide +kernel
theorem dJ7_copyOf_6403c_26 : decode cJ7_copyOf_6403c 26 = .ok (.iconst 0, 1) := by decide +kernel
theorem dJ7_copyOf_6403c_27 : decode cJ7_copyOf_6403c 27 = .ok (.aload_n 3, 1) := by decide +kernel
theorem dJ7_copyOf_6403c_28 : decode cJ7_copyOf_6403c 28 = .ok (.iconst 0, 1) := by decide +kernel
theorem dJ7_copyOf_6403c_29 : decode cJ7_copyOf_6403c 29 = .ok (.aload_n 0, 1) := by decide +kernel
theorem dJ7_copyOf_6403c_30 : decode cJ7_copyOf_6403c 30 = .ok (.arraylength, 1) := by decide +kernel
theorem dJ7_copyOf_6403c_31 : decode cJ7_copyOf_6403c 31 = .ok (.iload_n 1, 1) := by decide +kernel
theorem dJ7_copyOf_6403c_32 : decode cJ7_copyOf_6403c 32 = .ok (.invokestatic 304, 3) := by decide +kernel
theorem dJ7_copyOf_6403c_35 : decode cJ7_copyOf_6403c 35 = .ok (.invokestatic 150, 3) := by decide +kernel
theorem dJ7_copyOf_6403c_38 : decode cJ7_copyOf_6403c 38 = .ok (.aload_n 3, 1) := by decide +kernel
theorem dJ7_copyOf_6403c_39 : decode cJ7_copyOf_6403c 39 = .ok (.areturn, 1) := by decide +kernel
theorem dJ15_checkIndex_7cf53_0 : decode cJ15_checkIndex_7cf53 0 = .ok (.iload_n 0, 1) := by decide +kernel
theorem dJ15_checkIndex_7cf53_1 : decode cJ15_checkIndex_7cf53 1 = .ok (.iload_n 1, 1) := by decide +kernel
theorem dJ15_checkIndex_7cf53_2 : decode cJ15_checkIndex_7cf53 2 = .ok (.aconst_null, 1) := by decide +kernel
theorem dJ15_checkIndex_7cf53_3 : decode cJ15_checkIndex_7cf53 3 = .ok (.invokestatic 105, 3) := by decide +kernel
theorem dJ15_checkIndex_7cf53_6 : decode cJ15_checkIndex_7cf53 6 = .ok (.ireturn, 1) := by decide +kernel
theorem dJ8_newLength_cabcc_0 : decode cJ8_newLength_cabcc 0 = .ok (.iload_n 0, 1) := by decide +kernel
theorem dJ8_newLength_cabcc_1 : decode cJ8_newLength_cabcc 1 = .ok (.iload_n 1, 1) := by decide +kernel
theorem dJ8_newLength_cabcc_2 : decode cJ8_newLength_cabcc 2 = .ok (.iload_n 2, 1) := by decide +kernel
theorem dJ8_newLength_cabcc_3 : decode cJ8_newLength_cabcc 3 = .ok (.invokestatic 194, 3) := by decide +kernel
theorem dJ8_newLength_cabcc_6 : decode cJ8_newLength_cabcc 6 = .ok (.iadd, 1) := by decide +kernel
theorem dJ8_newLength_cabcc_7 : decode cJ8_newLength_cabcc 7 = .ok (.istore_n 3, 1) := by decide +kernel
theorem dJ8_newLength_cabcc_8 : decode cJ8_newLength_cabcc 8 = .ok (.iconst 0, 1) := by decide +kernel
theorem dJ8_newLength_cabcc_9 : decode cJ8_newLength_cabcc 9 = .ok (.iload_n 3, 1) := by decide +kernel
theorem dJ8_newLength_cabcc_10 : decode cJ8_newLength_cabcc 10 = .ok (.if_icmp .ge 11, 3) := by decide +kernel
theorem dJ8_newLength_cabcc_13 : decode cJ8_newLength_cabcc 13 = .ok (.iload_n 3, 1) := by decide +kernel
theorem dJ8_newLength_cabcc_14 : decode cJ8_newLength_cabcc 14 = .ok (.ldc 200, 2) := by decide +kernel
theorem dJ8_newLength_cabcc_16 : decode cJ8_newLength_cabcc 16 = .ok (.if_icmp .gt 5, 3) := by decide +kernel
theorem dJ8_newLength_cabcc_19 : decode cJ8_newLength_cabcc 19 = .ok (.iload_n 3, 1) := by decide +kernel
theorem dJ8_newLength_cabcc_20 : decode cJ8_newLength_cabcc 20 = .ok (.ireturn, 1) := by decide +kernel
theorem dJ8_newLength_cabcc_21 : decode cJ8_newLength_cabcc 21 = .ok (.iload_n 0, 1) := by decide +kernel
theorem dJ8_newLength_cabcc_22 : decode cJ8_newLength_cabcc 22 = .ok (.iload_n 1, 1) := by decide +kernel
theorem dJ8_newLength_cabcc_23 : decode cJ8_newLength_cabcc 23 = .ok (.invokestatic 201, 3) := by decide +kernel
theorem dJ8_newLength_cabcc_26 : decode cJ8_newLength_cabcc 26 = .ok (.ireturn, 1) := by decide +kernel
theorem dJ8_hugeLength_7cf53_0 : decode cJ8_hugeLength_7cf53 0 = .ok (.iload_n 0, 1) := by decide +kernel
theorem dJ8_hugeLength_7cf53_1 : decode cJ8_hugeLength_7cf53 1 = .ok (.iload_n 1, 1) := by decide +kernel
theorem dJ8_hugeLength_7cf53_2 : decode cJ8_hugeLength_7cf53 2 = .ok (.iadd, 1) := by decide +kernel
theorem dJ8_hugeLength_7cf53_3 : decode cJ8_hugeLength_7cf53 3 = .ok (.istore_n 2, 1) := by decide +kernel
theorem dJ8_hugeLength_7cf53_4 : decode cJ8_hugeLength_7cf53 4 = .ok (.iload_n 2, 1) := by decide +kernel
theorem dJ8_hugeLength_7cf53_5 : decode cJ8_hugeLength_7cf53 5 = .ok (.ifCond .ge 44, 3) := by decide +kernel
theorem dJ8_hugeLength_7cf53_8 : decode cJ8_hugeLength_7cf53 8 = .ok (.new 204, 3) := by decide +kernel
theorem dJ8_hugeLength_7cf53_11 : decode cJ8_hugeLength_7cf53 11 = .ok (.dup, 1) := by decide +kernel
theorem dJ8_hugeLength_7cf53_12 : decode cJ8_hugeLength_7cf53 12 = .ok (.new 89, 3) := by decide +kernel
theorem dJ8_hugeLength_7cf53_15 : decode cJ8_hugeLength_7cf53 15 = .ok (.dup, 1) := by decide +kernel
theorem dJ8_hugeLength_7cf53_16 : decode cJ8_hugeLength_7cf53 16 = .ok (.invokespecial 91, 3) := by decide +kernel
theorem dJ8_hugeLength_7cf53_19 : decode cJ8_hugeLength_7cf53 19 = .ok (.ldc 206, 2) := by decide +kernel
theorem dJ8_hugeLength_7cf53_21 : decode cJ8_hugeLength_7cf53 21 = .ok (.invokevirtual 94, 3) := by decide +kernel
theorem dJ8_hugeLength_7cf53_24 : decode cJ8_hugeLength_7cf53 24 = .ok (.iload_n 0, 1) := by decide +kernel
theorem dJ8_hugeLength_7cf53_25 : decode cJ8_hugeLength_7cf53 25 = .ok (.invokevirtual 98, 3) := by decide +kernel
theorem dJ8_hugeLength_7cf53_28 : decode cJ8_hugeLength_7cf53 28 = .ok (.ldc 208, 2) := by decide +kernel
theorem dJ8_hugeLength_7cf53_30 : decode cJ8_hugeLength_7cf53 30 = .ok (.invokevirtual 94, 3) := by decide +kernel
theorem dJ8_hugeLength_7cf53_33 : decode cJ8_hugeLength_7cf53 33 = .ok (.iload_n 1, 1) := by decide +kernel
theorem dJ8_hugeLength_7cf53_34 : decode cJ8_hugeLength_7cf53 34 = .ok (.invokevirtual 98, 3) := by decide +kernel
theorem dJ8_hugeLength_7cf53_37 : decode cJ8_hugeLength_7cf53 37 = .ok (.ldc 210, 2) := by decide +kernel
theorem dJ8_hugeLength_7cf53_39 : decode cJ8_hugeLength_7cf53 39 = .ok (.invokevirtual 94, 3) := by decide +kernel
theorem dJ8_hugeLength_7cf53_42 : decode cJ8_hugeLength_7cf53 42 = .ok (.invokevirtual 101, 3) := by decide +kernel
theorem dJ8_hugeLength_7cf53_45 : decode cJ8_hugeLength_7cf53 45 = .ok (.invokespecial 212, 3) := by decide +kernel
theorem dJ8_hugeLength_7cf53_48 : decode cJ8_hugeLength_7cf53 48 = .ok (.athrow, 1) := by decide +kernel
theorem dJ8_hugeLength_7cf53_49 : decode cJ8_hugeLength_7cf53 49 = .ok (.iload_n 2, 1) := by decide +kernel
theorem dJ8_hugeLength_7cf53_50 : decode cJ8_hugeLength_7cf53 50 = .ok (.ldc 200, 2) := by decide +kernel
theorem dJ8_hugeLength_7cf53_52 : decode cJ8_hugeLength_7cf53 52 = .ok (.if_icmp .gt 6, 3) := by decide +kernel
theorem dJ8_hugeLength_7cf53_55 : decode cJ8_hugeLength_7cf53 55 = .ok (.ldc 200, 2) := by decide +kernel
theorem dJ8_hugeLength_7cf53_57 : decode cJ8_hugeLength_7cf53 57 = .ok (.ireturn, 1) := by decide +kernel
theorem dJ8_hugeLength_7cf53_58 : decode cJ8_hugeLength_7cf53 58 = .ok (.iload_n 2, 1) := by decide +kernel
theorem dJ8_hugeLength_7cf53_59 : decode cJ8_hugeLength_7cf53 59 = .ok (.ireturn, 1) := by decide +kernel
theorem dJ3_checkIndex_8e157_0 : decode cJ3_checkIndex_8e157 0 = .ok (.iload_n 0, 1) := by decide +kernel
theorem dJ3_checkIndex_8e157_1 : decode cJ3_checkIndex_8e157 1 = .ok (.ifCond .lt 8, 3) := by decide +kernel
theorem dJ3_checkIndex_8e157_4 : decode cJ3_checkIndex_8e157 4 = .ok (.iload_n 0, 1) := by decide +kernel
theorem dJ3_checkIndex_8e157_5 : decode cJ3_checkIndex_8e157 5 = .ok (.iload_n 1, 1) := by decide +kernel
theorem dJ3_checkIndex_8e157_6 : decode cJ3_checkIndex_8e157 6 = .ok (.if_icmp .lt 10, 3) := by decide +kernel
theorem dJ3_checkIndex_8e157_9 : decode cJ3_checkIndex_8e157 9 = .ok (.aload_n 2, 1) := by decide +kernel
theorem dJ3_checkIndex_8e157_10 : decode cJ3_checkIndex_8e157 10 = .ok (.iload_n 0, 1) := by decide +kernel
theorem dJ3_checkIndex_8e157_11 : decode cJ3_checkIndex_8e157 11 = .ok (.iload_n 1, 1) := by decide +kernel
theorem dJ3_checkIndex_8e157_12 : decode cJ3_checkIndex_8e157 12 = .ok (.invokestatic 95, 3) := by decide +kernel
theorem dJ3_checkIndex_8e157_15 : decode cJ3_checkIndex_8e157 15 = .ok (.athrow, 1) := by decide +kernel
theorem dJ3_checkIndex_8e157_16 : decode cJ3_checkIndex_8e157 16 = .ok (.iload_n 0, 1) := by decide +kernel
theorem dJ3_checkIndex_8e157_17 : decode cJ3_checkIndex_8e157 17 = .ok (.ireturn, 1) := by decide +kernel
