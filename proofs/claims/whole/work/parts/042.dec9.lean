theorem dX9_init_0 : decode cX9_init 0 = .ok (.aload_n 0, 1) := by decide +kernel
theorem dX9_init_1 : decode cX9_init 1 = .ok (.invokespecial 1, 3) := by decide +kernel
theorem dX9_init_4 : decode cX9_init 4 = .ok (.aload_n 0, 1) := by decide +kernel
theorem dX9_init_5 : decode cX9_init 5 = .ok (.bipush 16, 2) := by decide +kernel
theorem dX9_init_7 : decode cX9_init 7 = .ok (.newarray .int, 2) := by decide +kernel
theorem dX9_init_9 : decode cX9_init 9 = .ok (.putfield 9, 3) := by decide +kernel
theorem dX9_init_12 : decode cX9_init 12 = .ok (.aload_n 0, 1) := by decide +kernel
theorem dX9_init_13 : decode cX9_init 13 = .ok (.bipush 16, 2) := by decide +kernel
theorem dX9_init_15 : decode cX9_init 15 = .ok (.newarray .int, 2) := by decide +kernel
theorem dX9_init_17 : decode cX9_init 17 = .ok (.putfield 13, 3) := by decide +kernel
theorem dX9_init_20 : decode cX9_init 20 = .ok (.aload_n 0, 1) := by decide +kernel
theorem dX9_init_21 : decode cX9_init 21 = .ok (.bipush 16, 2) := by decide +kernel
theorem dX9_init_23 : decode cX9_init 23 = .ok (.newarray .int, 2) := by decide +kernel
theorem dX9_init_25 : decode cX9_init 25 = .ok (.putfield 16, 3) := by decide +kernel
theorem dX9_init_28 : decode cX9_init 28 = .ok (.aload_n 0, 1) := by decide +kernel
theorem dX9_init_29 : decode cX9_init 29 = .ok (.bipush 16, 2) := by decide +kernel
theorem dX9_init_31 : decode cX9_init 31 = .ok (.newarray .int, 2) := by decide +kernel
theorem dX9_init_33 : decode cX9_init 33 = .ok (.putfield 19, 3) := by decide +kernel
theorem dX9_init_36 : decode cX9_init 36 = .ok (.aload_n 0, 1) := by decide +kernel
theorem dX9_init_37 : decode cX9_init 37 = .ok (.bipush 30, 2) := by decide +kernel
theorem dX9_init_39 : decode cX9_init 39 = .ok (.newarray .int, 2) := by decide +kernel
theorem dX9_init_41 : decode cX9_init 41 = .ok (.putfield 22, 3) := by decide +kernel
theorem dX9_init_44 : decode cX9_init 44 = .ok (.aload_n 0, 1) := by decide +kernel
theorem dX9_init_45 : decode cX9_init 45 = .ok (.bipush 30, 2) := by decide +kernel
theorem dX9_init_47 : decode cX9_init 47 = .ok (.newarray .int, 2) := by decide +kernel
theorem dX9_init_49 : decode cX9_init 49 = .ok (.putfield 25, 3) := by decide +kernel
theorem dX9_init_52 : decode cX9_init 52 = .ok (.aload_n 0, 1) := by decide +kernel
theorem dX9_init_53 : decode cX9_init 53 = .ok (.bipush 30, 2) := by decide +kernel
theorem dX9_init_55 : decode cX9_init 55 = .ok (.newarray .int, 2) := by decide +kernel
theorem dX9_init_57 : decode cX9_init 57 = .ok (.putfield 28, 3) := by decide +kernel
theorem dX9_init_60 : decode cX9_init 60 = .ok (.aload_n 0, 1) := by decide +kernel
theorem dX9_init_61 : decode cX9_init 61 = .ok (.bipush 30, 2) := by decide +kernel
theorem dX9_init_63 : decode cX9_init 63 = .ok (.newarray .int, 2) := by decide +kernel
theorem dX9_init_65 : decode cX9_init 65 = .ok (.putfield 31, 3) := by decide +kernel
theorem dX9_init_68 : decode cX9_init 68 = .ok (.aload_n 0, 1) := by decide +kernel
theorem dX9_init_69 : decode cX9_init 69 = .ok (.iconst 4, 1) := by decide +kernel
theorem dX9_init_70 : decode cX9_init 70 = .ok (.newarray .int, 2) := by decide +kernel
theorem dX9_init_72 : decode cX9_init 72 = .ok (.putfield 34, 3) := by decide +kernel
theorem dX9_init_75 : decode cX9_init 75 = .ok (.aload_n 0, 1) := by decide +kernel
theorem dX9_init_76 : decode cX9_init 76 = .ok (.bipush 20, 2) := by decide +kernel
theorem dX9_init_78 : decode cX9_init 78 = .ok (.newarray .int, 2) := by decide +kernel
theorem dX9_init_80 : decode cX9_init 80 = .ok (.putfield 37, 3) := by decide +kernel
theorem dX9_init_83 : decode cX9_init 83 = .ok (.aload_n 0, 1) := by decide +kernel
theorem dX9_init_84 : decode cX9_init 84 = .ok (.bipush 20, 2) := by decide +kernel
theorem dX9_init_86 : decode cX9_init 86 = .ok (.newarray .int, 2) := by decide +kernel
theorem dX9_init_88 : decode cX9_init 88 = .ok (.putfield 40, 3) := by decide +kernel
theorem dX9_init_91 : decode cX9_init 91 = .ok (.aload_n 0, 1) := by decide +kernel
theorem dX9_init_92 : decode cX9_init 92 = .ok (.bipush 20, 2) := by decide +kernel
theorem dX9_init_94 : decode cX9_init 94 = .ok (.newarray .int, 2) := by decide +kernel
theorem dX9_init_96 : decode cX9_init 96 = .ok (.putfield 43, 3) := by decide +kernel
theorem dX9_init_99 : decode cX9_init 99 = .ok (.aload_n 0, 1) := by decide +kernel
theorem dX9_init_100 : decode cX9_init 100 = .ok (.bipush 16, 2) := by decide +kernel
theorem dX9_init_102 : decode cX9_init 102 = .ok (.newarray .boolean, 2) := by decide +kernel
theorem dX9_init_104 : decode cX9_init 104 = .ok (.putfield 46, 3) := by decide +kernel
theorem dX9_init_107 : decode cX9_init 107 = .ok (.aload_n 0, 1) := by decide +kernel
theorem dX9_init_108 : decode cX9_init 108 = .ok (.bipush 20, 2) := by decide +kernel
theorem dX9_init_110 : decode cX9_init 110 = .ok (.newarray .boolean, 2) := by decide +kernel
theorem dX9_init_112 : decode cX9_init 112 = .ok (.putfield 50, 3) := by decide +kernel
theorem dX9_init_115 : decode cX9_init 115 = .ok (.aload_n 0, 1) := by decide +kernel
theorem dX9_init_116 : decode cX9_init 116 = .ok (.iconst 1, 1) := by decide +kernel
theorem dX9_init_117 : decode cX9_init 117 = .ok (.putfield 53, 3) := by decide +kernel
theorem dX9_init_120 : decode cX9_init 120 = .ok (.aload_n 0, 1) := by decide +kernel
theorem dX9_init_121 : decode cX9_init 121 = .ok (.iconst 5, 1) := by decide +kernel
theorem dX9_init_122 : decode cX9_init 122 = .ok (.putfield 57, 3) := by decide +kernel
theorem dX9_init_125 : decode cX9_init 125 = .ok (.aload_n 0, 1) := by decide +kernel
theorem dX9_init_126 : decode cX9_init 126 = .ok (.bipush 100, 2) := by decide +kernel
theorem dX9_init_128 : decode cX9_init 128 = .ok (.newarray .int, 2) := by decide +kernel
theorem dX9_init_130 : decode cX9_init 130 = .ok (.putfield 60, 3) := by decide +kernel
theorem dX9_init_133 : decode cX9_init 133 = .ok (.aload_n 0, 1) := by decide +kernel
theorem dX9_init_134 : decode cX9_init 134 = .ok (.bipush 64, 2) := by decide +kernel
theorem dX9_init_136 : decode cX9_init 136 = .ok (.newarray .int, 2) := by decide +kernel
theorem dX9_init_138 : decode cX9_init 138 = .ok (.putfield 63, 3) := by decide +kernel
theorem dX9_init_141 : decode cX9_init 141 = .ok (.aload_n 0, 1) := by decide +kernel
theorem dX9_init_142 : decode cX9_init 142 = .ok (.sipush 2560, 3) := by decide +kernel
theorem dX9_init_145 : decode cX9_init 145 = .ok (.newarray .int, 2) := by decide +kernel
theorem dX9_init_147 : decode cX9_init 147 = .ok (.putfield 66, 3) := by decide +kernel
theorem dX9_init_150 : decode cX9_init 150 = .ok (.aload_n 0, 1) := by decide +kernel
theorem dX9_init_151 : decode cX9_init 151 = .ok (.bipush 8, 2) := by decide +kernel
theorem dX9_init_153 : decode cX9_init 153 = .ok (.newarray .int, 2) := by decide +kernel
theorem dX9_init_155 : decode cX9_init 155 = .ok (.putfield 69, 3) := by decide +kernel
theorem dX9_init_158 : decode cX9_init 158 = .ok (.aload_n 0, 1) := by decide +kernel
theorem dX9_init_159 : decode cX9_init 159 = .ok (.bipush 16, 2) := by decide +kernel
theorem dX9_init_161 : decode cX9_init 161 = .ok (.newarray .int, 2) := by decide +kernel
theorem dX9_init_163 : decode cX9_init 163 = .ok (.putfield 72, 3) := by decide +kernel
theorem dX9_init_166 : decode cX9_init 166 = .ok (.aload_n 0, 1) := by decide +kernel
theorem dX9_init_167 : decode cX9_init 167 = .ok (.bipush 16, 2) := by decide +kernel
theorem dX9_init_169 : decode cX9_init 169 = .ok (.newarray .int, 2) := by decide +kernel
theorem dX9_init_171 : decode cX9_init 171 = .ok (.putfield 75, 3) := by decide +kernel
theorem dX9_init_174 : decode cX9_init 174 = .ok (.aload_n 0, 1) := by decide +kernel
theorem dX9_init_175 : decode cX9_init 175 = .ok (.sipush 128, 3) := by decide +kernel
theorem dX9_init_178 : decode cX9_init 178 = .ok (.newarray .int, 2) := by decide +kernel
theorem dX9_init_180 : decode cX9_init 180 = .ok (.putfield 78, 3) := by decide +kernel
theorem dX9_init_183 : decode cX9_init 183 = .ok (.return_, 1) := by decide +kernel
theorem dX9_thrown_0 : decode cX9_thrown 0 = .ok (.aload_n 0, 1) := by decide +kernel
theorem dX9_thrown_1 : decode cX9_thrown 1 = .ok (.getfield 81, 3) := by decide +kernel
theorem dX9_thrown_4 : decode cX9_thrown 4 = .ok (.ireturn, 1) := by decide +kernel
theorem dX9_fails_0 : decode cX9_fails 0 = .ok (.aload_n 0, 1) := by decide +kernel
theorem dX9_fails_1 : decode cX9_fails 1 = .ok (.iload_n 1, 1) := by decide +kernel
theorem dX9_fails_2 : decode cX9_fails 2 = .ok (.putfield 81, 3) := by decide +kernel
theorem dX9_fails_5 : decode cX9_fails 5 = .ok (.iconst 0, 1) := by decide +kernel
theorem dX9_fails_6 : decode cX9_fails 6 = .ok (.ireturn, 1) := by decide +kernel
theorem dX9_isBetween_0 : decode cX9_isBetween 0 = .ok (.iload_n 1, 1) := by decide +kernel
theorem dX9_isBetween_1 : decode cX9_isBetween 1 = .ok (.iload_n 0, 1) := by decide +kernel
theorem dX9_isBetween_2 : decode cX9_isBetween 2 = .ok (.if_icmp .gt 12, 3) := by decide +kernel
theorem dX9_isBetween_5 : decode cX9_isBetween 5 = .ok (.iload_n 0, 1) := by decide +kernel
theorem dX9_isBetween_6 : decode cX9_isBetween 6 = .ok (.iload_n 2, 1) := by decide +kernel
theorem dX9_isBetween_7 : decode cX9_isBetween 7 = .ok (.if_icmp .gt 7, 3) := by decide +kernel
theorem dX9_isBetween_10 : decode cX9_isBetween 10 = .ok (.iconst 1, 1) := by decide +kernel
theorem dX9_isBetween_11 : decode cX9_isBetween 11 = .ok (.goto 4, 3) := by decide +kernel
theorem dX9_isBetween_14 : decode cX9_isBetween 14 = .ok (.iconst 0, 1) := by decide +kernel
theorem dX9_isBetween_15 : decode cX9_isBetween 15 = .ok (.ireturn, 1) := by decide +kernel
theorem dX9_isStreet_0 : decode cX9_isStreet 0 = .ok (.iload_n 1, 1) := by decide +kernel
theorem dX9_isStreet_1 : decode cX9_isStreet 1 = .ok (.iconst 0, 1) := by decide +kernel
theorem dX9_isStreet_2 : decode cX9_isStreet 2 = .ok (.aload_n 0, 1) := by decide +kernel
theorem dX9_isStreet_3 : decode cX9_isStreet 3 = .ok (.getfield 84, 3) := by decide +kernel
theorem dX9_isStreet_6 : decode cX9_isStreet 6 = .ok (.iconst 1, 1) := by decide +kernel
theorem dX9_isStreet_7 : decode cX9_isStreet 7 = .ok (.isub, 1) := by decide +kernel
theorem dX9_isStreet_8 : decode cX9_isStreet 8 = .ok (.invokestatic 87, 3) := by decide +kernel
theorem dX9_isStreet_11 : decode cX9_isStreet 11 = .ok (.ireturn, 1) := by decide +kernel
theorem dX9_isHouse_0 : decode cX9_isHouse 0 = .ok (.iload_n 1, 1) := by decide +kernel
theorem dX9_isHouse_1 : decode cX9_isHouse 1 = .ok (.iconst 0, 1) := by decide +kernel
theorem dX9_isHouse_2 : decode cX9_isHouse 2 = .ok (.aload_n 0, 1) := by decide +kernel
theorem dX9_isHouse_3 : decode cX9_isHouse 3 = .ok (.getfield 91, 3) := by decide +kernel
theorem dX9_isHouse_6 : decode cX9_isHouse 6 = .ok (.iconst 1, 1) := by decide +kernel
theorem dX9_isHouse_7 : decode cX9_isHouse 7 = .ok (.isub, 1) := by decide +kernel
theorem dX9_isHouse_8 : decode cX9_isHouse 8 = .ok (.invokestatic 87, 3) := by decide +kernel
theorem dX9_isHouse_11 : decode cX9_isHouse 11 = .ok (.ireturn, 1) := by decide +kernel
theorem dX9_isRound_0 : decode cX9_isRound 0 = .ok (.iload_n 1, 1) := by decide +kernel
theorem dX9_isRound_1 : decode cX9_isRound 1 = .ok (.iconst 0, 1) := by decide +kernel
theorem dX9_isRound_2 : decode cX9_isRound 2 = .ok (.aload_n 0, 1) := by decide +kernel
theorem dX9_isRound_3 : decode cX9_isRound 3 = .ok (.getfield 94, 3) := by decide +kernel
theorem dX9_isRound_6 : decode cX9_isRound 6 = .ok (.iconst 1, 1) := by decide +kernel
theorem dX9_isRound_7 : decode cX9_isRound 7 = .ok (.isub, 1) := by decide +kernel
theorem dX9_isRound_8 : decode cX9_isRound 8 = .ok (.invokestatic 87, 3) := by decide +kernel
theorem dX9_isRound_11 : decode cX9_isRound 11 = .ok (.ireturn, 1) := by decide +kernel
theorem dX9_isPlace_0 : decode cX9_isPlace 0 = .ok (.iload_n 1, 1) := by decide +kernel
theorem dX9_isPlace_1 : decode cX9_isPlace 1 = .ok (.iconst 0, 1) := by decide +kernel
theorem dX9_isPlace_2 : decode cX9_isPlace 2 = .ok (.aload_n 0, 1) := by decide +kernel
theorem dX9_isPlace_3 : decode cX9_isPlace 3 = .ok (.getfield 53, 3) := by decide +kernel
theorem dX9_isPlace_6 : decode cX9_isPlace 6 = .ok (.iconst 1, 1) := by decide +kernel
theorem dX9_isPlace_7 : decode cX9_isPlace 7 = .ok (.isub, 1) := by decide +kernel
theorem dX9_isPlace_8 : decode cX9_isPlace 8 = .ok (.invokestatic 87, 3) := by decide +kernel
theorem dX9_isPlace_11 : decode cX9_isPlace 11 = .ok (.ireturn, 1) := by decide +kernel
theorem dX9_isParcel_0 : decode cX9_isParcel 0 = .ok (.iload_n 1, 1) := by decide +kernel
theorem dX9_isParcel_1 : decode cX9_isParcel 1 = .ok (.iconst 0, 1) := by decide +kernel
theorem dX9_isParcel_2 : decode cX9_isParcel 2 = .ok (.aload_n 0, 1) := by decide +kernel
theorem dX9_isParcel_3 : decode cX9_isParcel 3 = .ok (.getfield 97, 3) := by decide +kernel
theorem dX9_isParcel_6 : decode cX9_isParcel 6 = .ok (.iconst 1, 1) := by decide +kernel
theorem dX9_isParcel_7 : decode cX9_isParcel 7 = .ok (.isub, 1) := by decide +kernel
theorem dX9_isParcel_8 : decode cX9_isParcel 8 = .ok (.invokestatic 87, 3) := by decide +kernel
theorem dX9_isParcel_11 : decode cX9_isParcel 11 = .ok (.ireturn, 1) := by decide +kernel
theorem dX9_addPlace_0 : decode cX9_addPlace 0 = .ok (.aload_n 0, 1) := by decide +kernel
theorem dX9_addPlace_1 : decode cX9_addPlace 1 = .ok (.iconst 0, 1) := by decide +kernel
theorem dX9_addPlace_2 : decode cX9_addPlace 2 = .ok (.putfield 81, 3) := by decide +kernel
theorem dX9_addPlace_5 : decode cX9_addPlace 5 = .ok (.aload_n 0, 1) := by decide +kernel
theorem dX9_addPlace_6 : decode cX9_addPlace 6 = .ok (.getfield 53, 3) := by decide +kernel
theorem dX9_addPlace_9 : decode cX9_addPlace 9 = .ok (.bipush 10, 2) := by decide +kernel
theorem dX9_addPlace_11 : decode cX9_addPlace 11 = .ok (.if_icmp .ne 9, 3) := by decide +kernel
theorem dX9_addPlace_14 : decode cX9_addPlace 14 = .ok (.aload_n 0, 1) := by decide +kernel
theorem dX9_addPlace_15 : decode cX9_addPlace 15 = .ok (.iconst 1, 1) := by decide +kernel
theorem dX9_addPlace_16 : decode cX9_addPlace 16 = .ok (.invokevirtual 100, 3) := by decide +kernel
theorem dX9_addPlace_19 : decode cX9_addPlace 19 = .ok (.ireturn, 1) := by decide +kernel
theorem dX9_addPlace_20 : decode cX9_addPlace 20 = .ok (.aload_n 0, 1) := by decide +kernel
theorem dX9_addPlace_21 : decode cX9_addPlace 21 = .ok (.dup, 1) := by decide +kernel
theorem dX9_addPlace_22 : decode cX9_addPlace 22 = .ok (.getfield 53, 3) := by decide +kernel
theorem dX9_addPlace_25 : decode cX9_addPlace 25 = .ok (.iconst 1, 1) := by decide +kernel
theorem dX9_addPlace_26 : decode cX9_addPlace 26 = .ok (.iadd, 1) := by decide +kernel
theorem dX9_addPlace_27 : decode cX9_addPlace 27 = .ok (.putfield 53, 3) := by decide +kernel
theorem dX9_addPlace_30 : decode cX9_addPlace 30 = .ok (.aload_n 0, 1) := by decide +kernel
theorem dX9_addPlace_31 : decode cX9_addPlace 31 = .ok (.getfield 53, 3) := by decide +kernel
theorem dX9_addPlace_34 : decode cX9_addPlace 34 = .ok (.iconst 1, 1) := by decide +kernel
theorem dX9_addPlace_35 : decode cX9_addPlace 35 = .ok (.isub, 1) := by decide +kernel
theorem dX9_addPlace_36 : decode cX9_addPlace 36 = .ok (.ireturn, 1) := by decide +kernel
theorem dX9_addStreet_0 : decode cX9_addStreet 0 = .ok (.aload_n 0, 1) := by decide +kernel
theorem dX9_addStreet_1 : decode cX9_addStreet 1 = .ok (.iconst 0, 1) := by decide +kernel
theorem dX9_addStreet_2 : decode cX9_addStreet 2 = .ok (.putfield 81, 3) := by decide +kernel
theorem dX9_addStreet_5 : decode cX9_addStreet 5 = .ok (.aload_n 0, 1) := by decide +kernel
theorem dX9_addStreet_6 : decode cX9_addStreet 6 = .ok (.iload_n 1, 1) := by decide +kernel
theorem dX9_addStreet_7 : decode cX9_addStreet 7 = .ok (.invokevirtual 104, 3) := by decide +kernel
theorem dX9_addStreet_10 : decode cX9_addStreet 10 = .ok (.ifCond .eq 11, 3) := by decide +kernel
theorem dX9_addStreet_13 : decode cX9_addStreet 13 = .ok (.aload_n 0, 1) := by decide +kernel
theorem dX9_addStreet_14 : decode cX9_addStreet 14 = .ok (.iload_n 2, 1) := by decide +kernel
theorem dX9_addStreet_15 : decode cX9_addStreet 15 = .ok (.invokevirtual 104, 3) := by decide +kernel
theorem dX9_addStreet_18 : decode cX9_addStreet 18 = .ok (.ifCond .ne 9, 3) := by decide +kernel
theorem dX9_addStreet_21 : decode cX9_addStreet 21 = .ok (.aload_n 0, 1) := by decide +kernel
theorem dX9_addStreet_22 : decode cX9_addStreet 22 = .ok (.iconst 1, 1) := by decide +kernel
theorem dX9_addStreet_23 : decode cX9_addStreet 23 = .ok (.invokevirtual 100, 3) := by decide +kernel
theorem dX9_addStreet_26 : decode cX9_addStreet 26 = .ok (.ireturn, 1) := by decide +kernel
theorem dX9_addStreet_27 : decode cX9_addStreet 27 = .ok (.iload_n 1, 1) := by decide +kernel
theorem dX9_addStreet_28 : decode cX9_addStreet 28 = .ok (.iload_n 2, 1) := by decide +kernel
theorem dX9_addStreet_29 : decode cX9_addStreet 29 = .ok (.if_icmp .eq 13, 3) := by decide +kernel
theorem dX9_addStreet_32 : decode cX9_addStreet 32 = .ok (.iload_n 3, 1) := by decide +kernel
theorem dX9_addStreet_33 : decode cX9_addStreet 33 = .ok (.iconst 1, 1) := by decide +kernel
theorem dX9_addStreet_34 : decode cX9_addStreet 34 = .ok (.bipush 99, 2) := by decide +kernel
theorem dX9_addStreet_36 : decode cX9_addStreet 36 = .ok (.invokestatic 87, 3) := by decide +kernel
theorem dX9_addStreet_39 : decode cX9_addStreet 39 = .ok (.ifCond .ne 9, 3) := by decide +kernel
theorem dX9_addStreet_42 : decode cX9_addStreet 42 = .ok (.aload_n 0, 1) := by decide +kernel
theorem dX9_addStreet_43 : decode cX9_addStreet 43 = .ok (.iconst 2, 1) := by decide +kernel
theorem dX9_addStreet_44 : decode cX9_addStreet 44 = .ok (.invokevirtual 100, 3) := by decide +kernel
theorem dX9_addStreet_47 : decode cX9_addStreet 47 = .ok (.ireturn, 1) := by decide +kernel
theorem dX9_addStreet_48 : decode cX9_addStreet 48 = .ok (.aload_n 0, 1) := by decide +kernel
theorem dX9_addStreet_49 : decode cX9_addStreet 49 = .ok (.getfield 84, 3) := by decide +kernel
theorem dX9_addStreet_52 : decode cX9_addStreet 52 = .ok (.bipush 16, 2) := by decide +kernel
theorem dX9_addStreet_54 : decode cX9_addStreet 54 = .ok (.if_icmp .ne 9, 3) := by decide +kernel
theorem dX9_addStreet_57 : decode cX9_addStreet 57 = .ok (.aload_n 0, 1) := by decide +kernel
theorem dX9_addStreet_58 : decode cX9_addStreet 58 = .ok (.iconst 3, 1) := by decide +kernel
theorem dX9_addStreet_59 : decode cX9_addStreet 59 = .ok (.invokevirtual 100, 3) := by decide +kernel
theorem dX9_addStreet_62 : decode cX9_addStreet 62 = .ok (.ireturn, 1) := by decide +kernel
theorem dX9_addStreet_63 : decode cX9_addStreet 63 = .ok (.aload_n 0, 1) := by decide +kernel
theorem dX9_addStreet_64 : decode cX9_addStreet 64 = .ok (.getfield 9, 3) := by decide +kernel
theorem dX9_addStreet_67 : decode cX9_addStreet 67 = .ok (.aload_n 0, 1) := by decide +kernel
theorem dX9_addStreet_68 : decode cX9_addStreet 68 = .ok (.getfield 84, 3) := by decide +kernel
theorem dX9_addStreet_71 : decode cX9_addStreet 71 = .ok (.iload_n 1, 1) := by decide +kernel
theorem dX9_addStreet_72 : decode cX9_addStreet 72 = .ok (.iastore, 1) := by decide +kernel
theorem dX9_addStreet_73 : decode cX9_addStreet 73 = .ok (.aload_n 0, 1) := by decide +kernel
theorem dX9_addStreet_74 : decode cX9_addStreet 74 = .ok (.getfield 13, 3) := by decide +kernel
theorem dX9_addStreet_77 : decode cX9_addStreet 77 = .ok (.aload_n 0, 1) := by decide +kernel
theorem dX9_addStreet_78 : decode cX9_addStreet 78 = .ok (.getfield 84, 3) := by decide +kernel
theorem dX9_addStreet_81 : decode cX9_addStreet 81 = .ok (.iload_n 2, 1) := by decide +kernel
theorem dX9_addStreet_82 : decode cX9_addStreet 82 = .ok (.iastore, 1) := by decide +kernel
theorem dX9_addStreet_83 : decode cX9_addStreet 83 = .ok (.aload_n 0, 1) := by decide +kernel
theorem dX9_addStreet_84 : decode cX9_addStreet 84 = .ok (.getfield 16, 3) := by decide +kernel
theorem dX9_addStreet_87 : decode cX9_addStreet 87 = .ok (.aload_n 0, 1) := by decide +kernel
theorem dX9_addStreet_88 : decode cX9_addStreet 88 = .ok (.getfield 84, 3) := by decide +kernel
theorem dX9_addStreet_91 : decode cX9_addStreet 91 = .ok (.iload_n 3, 1) := by decide +kernel
theorem dX9_addStreet_92 : decode cX9_addStreet 92 = .ok (.iastore, 1) := by decide +kernel
theorem dX9_addStreet_93 : decode cX9_addStreet 93 = .ok (.aload_n 0, 1) := by decide +kernel
theorem dX9_addStreet_94 : decode cX9_addStreet 94 = .ok (.getfield 46, 3) := by decide +kernel
theorem dX9_addStreet_97 : decode cX9_addStreet 97 = .ok (.aload_n 0, 1) := by decide +kernel
theorem dX9_addStreet_98 : decode cX9_addStreet 98 = .ok (.getfield 84, 3) := by decide +kernel
theorem dX9_addStreet_101 : decode cX9_addStreet 101 = .ok (.iload 4, 2) := by decide +kernel
theorem dX9_addStreet_103 : decode cX9_addStreet 103 = .ok (.bastore, 1) := by decide +kernel
theorem dX9_addStreet_104 : decode cX9_addStreet 104 = .ok (.aload_n 0, 1) := by decide +kernel
theorem dX9_addStreet_105 : decode cX9_addStreet 105 = .ok (.getfield 19, 3) := by decide +kernel
theorem dX9_addStreet_108 : decode cX9_addStreet 108 = .ok (.aload_n 0, 1) := by decide +kernel
theorem dX9_addStreet_109 : decode cX9_addStreet 109 = .ok (.getfield 84, 3) := by decide +kernel
theorem dX9_addStreet_112 : decode cX9_addStreet 112 = .ok (.iconst (-1), 1) := by decide +kernel
theorem dX9_addStreet_113 : decode cX9_addStreet 113 = .ok (.iastore, 1) := by decide +kernel
theorem dX9_addStreet_114 : decode cX9_addStreet 114 = .ok (.aload_n 0, 1) := by decide +kernel
theorem dX9_addStreet_115 : decode cX9_addStreet 115 = .ok (.dup, 1) := by decide +kernel
theorem dX9_addStreet_116 : decode cX9_addStreet 116 = .ok (.getfield 84, 3) := by decide +kernel
theorem dX9_addStreet_119 : decode cX9_addStreet 119 = .ok (.iconst 1, 1) := by decide +kernel
theorem dX9_addStreet_120 : decode cX9_addStreet 120 = .ok (.iadd, 1) := by decide +kernel
theorem dX9_addStreet_121 : decode cX9_addStreet 121 = .ok (.putfield 84, 3) := by decide +kernel
theorem dX9_addStreet_124 : decode cX9_addStreet 124 = .ok (.aload_n 0, 1) := by decide +kernel
theorem dX9_addStreet_125 : decode cX9_addStreet 125 = .ok (.getfield 84, 3) := by decide +kernel
theorem dX9_addStreet_128 : decode cX9_addStreet 128 = .ok (.iconst 1, 1) := by decide +kernel
theorem dX9_addStreet_129 : decode cX9_addStreet 129 = .ok (.isub, 1) := by decide +kernel
theorem dX9_addStreet_130 : decode cX9_addStreet 130 = .ok (.ireturn, 1) := by decide +kernel
theorem dX9_addHouse_0 : decode cX9_addHouse 0 = .ok (.aload_n 0, 1) := by decide +kernel
theorem dX9_addHouse_1 : decode cX9_addHouse 1 = .ok (.iconst 0, 1) := by decide +kernel
theorem dX9_addHouse_2 : decode cX9_addHouse 2 = .ok (.putfield 81, 3) := by decide +kernel
theorem dX9_addHouse_5 : decode cX9_addHouse 5 = .ok (.aload_n 0, 1) := by decide +kernel
theorem dX9_addHouse_6 : decode cX9_addHouse 6 = .ok (.iload_n 1, 1) := by decide +kernel
theorem dX9_addHouse_7 : decode cX9_addHouse 7 = .ok (.invokevirtual 108, 3) := by decide +kernel
theorem dX9_addHouse_10 : decode cX9_addHouse 10 = .ok (.ifCond .ne 9, 3) := by decide +kernel
theorem dX9_addHouse_13 : decode cX9_addHouse 13 = .ok (.aload_n 0, 1) := by decide +kernel
theorem dX9_addHouse_14 : decode cX9_addHouse 14 = .ok (.iconst 1, 1) := by decide +kernel
theorem dX9_addHouse_15 : decode cX9_addHouse 15 = .ok (.invokevirtual 100, 3) := by decide +kernel
theorem dX9_addHouse_18 : decode cX9_addHouse 18 = .ok (.ireturn, 1) := by decide +kernel
theorem dX9_addHouse_19 : decode cX9_addHouse 19 = .ok (.iload_n 2, 1) := by decide +kernel
theorem dX9_addHouse_20 : decode cX9_addHouse 20 = .ok (.iconst 0, 1) := by decide +kernel
theorem dX9_addHouse_21 : decode cX9_addHouse 21 = .ok (.iconst 1, 1) := by decide +kernel
theorem dX9_addHouse_22 : decode cX9_addHouse 22 = .ok (.invokestatic 87, 3) := by decide +kernel
theorem dX9_addHouse_25 : decode cX9_addHouse 25 = .ok (.ifCond .eq 17, 3) := by decide +kernel
theorem dX9_addHouse_28 : decode cX9_addHouse 28 = .ok (.iload_n 3, 1) := by decide +kernel
theorem dX9_addHouse_29 : decode cX9_addHouse 29 = .ok (.iconst 0, 1) := by decide +kernel
theorem dX9_addHouse_30 : decode cX9_addHouse 30 = .ok (.aload_n 0, 1) := by decide +kernel
theorem dX9_addHouse_31 : decode cX9_addHouse 31 = .ok (.getfield 16, 3) := by decide +kernel
theorem dX9_addHouse_34 : decode cX9_addHouse 34 = .ok (.iload_n 1, 1) := by decide +kernel
theorem dX9_addHouse_35 : decode cX9_addHouse 35 = .ok (.iaload, 1) := by decide +kernel
theorem dX9_addHouse_36 : decode cX9_addHouse 36 = .ok (.invokestatic 87, 3) := by decide +kernel
theorem dX9_addHouse_39 : decode cX9_addHouse 39 = .ok (.ifCond .ne 9, 3) := by decide +kernel
theorem dX9_addHouse_42 : decode cX9_addHouse 42 = .ok (.aload_n 0, 1) := by decide +kernel
theorem dX9_addHouse_43 : decode cX9_addHouse 43 = .ok (.iconst 2, 1) := by decide +kernel
theorem dX9_addHouse_44 : decode cX9_addHouse 44 = .ok (.invokevirtual 100, 3) := by decide +kernel
theorem dX9_addHouse_47 : decode cX9_addHouse 47 = .ok (.ireturn, 1) := by decide +kernel
theorem dX9_addHouse_48 : decode cX9_addHouse 48 = .ok (.aload_n 0, 1) := by decide +kernel
theorem dX9_addHouse_49 : decode cX9_addHouse 49 = .ok (.getfield 91, 3) := by decide +kernel
theorem dX9_addHouse_52 : decode cX9_addHouse 52 = .ok (.bipush 30, 2) := by decide +kernel
theorem dX9_addHouse_54 : decode cX9_addHouse 54 = .ok (.if_icmp .ne 9, 3) := by decide +kernel
theorem dX9_addHouse_57 : decode cX9_addHouse 57 = .ok (.aload_n 0, 1) := by decide +kernel
theorem dX9_addHouse_58 : decode cX9_addHouse 58 = .ok (.iconst 3, 1) := by decide +kernel
theorem dX9_addHouse_59 : decode cX9_addHouse 59 = .ok (.invokevirtual 100, 3) := by decide +kernel
theorem dX9_addHouse_62 : decode cX9_addHouse 62 = .ok (.ireturn, 1) := by decide +kernel
theorem dX9_addHouse_63 : decode cX9_addHouse 63 = .ok (.aload_n 0, 1) := by decide +kernel
theorem dX9_addHouse_64 : decode cX9_addHouse 64 = .ok (.getfield 22, 3) := by decide +kernel
theorem dX9_addHouse_67 : decode cX9_addHouse 67 = .ok (.aload_n 0, 1) := by decide +kernel
theorem dX9_addHouse_68 : decode cX9_addHouse 68 = .ok (.getfield 91, 3) := by decide +kernel
theorem dX9_addHouse_71 : decode cX9_addHouse 71 = .ok (.iload_n 1, 1) := by decide +kernel
theorem dX9_addHouse_72 : decode cX9_addHouse 72 = .ok (.iastore, 1) := by decide +kernel
theorem dX9_addHouse_73 : decode cX9_addHouse 73 = .ok (.aload_n 0, 1) := by decide +kernel
theorem dX9_addHouse_74 : decode cX9_addHouse 74 = .ok (.getfield 25, 3) := by decide +kernel
theorem dX9_addHouse_77 : decode cX9_addHouse 77 = .ok (.aload_n 0, 1) := by decide +kernel
theorem dX9_addHouse_78 : decode cX9_addHouse 78 = .ok (.getfield 91, 3) := by decide +kernel
theorem dX9_addHouse_81 : decode cX9_addHouse 81 = .ok (.iload_n 2, 1) := by decide +kernel
theorem dX9_addHouse_82 : decode cX9_addHouse 82 = .ok (.iastore, 1) := by decide +kernel
theorem dX9_addHouse_83 : decode cX9_addHouse 83 = .ok (.aload_n 0, 1) := by decide +kernel
theorem dX9_addHouse_84 : decode cX9_addHouse 84 = .ok (.getfield 28, 3) := by decide +kernel
theorem dX9_addHouse_87 : decode cX9_addHouse 87 = .ok (.aload_n 0, 1) := by decide +kernel
theorem dX9_addHouse_88 : decode cX9_addHouse 88 = .ok (.getfield 91, 3) := by decide +kernel
theorem dX9_addHouse_91 : decode cX9_addHouse 91 = .ok (.iload_n 3, 1) := by decide +kernel
theorem dX9_addHouse_92 : decode cX9_addHouse 92 = .ok (.iastore, 1) := by decide +kernel
theorem dX9_addHouse_93 : decode cX9_addHouse 93 = .ok (.aload_n 0, 1) := by decide +kernel
theorem dX9_addHouse_94 : decode cX9_addHouse 94 = .ok (.dup, 1) := by decide +kernel
theorem dX9_addHouse_95 : decode cX9_addHouse 95 = .ok (.getfield 91, 3) := by decide +kernel
theorem dX9_addHouse_98 : decode cX9_addHouse 98 = .ok (.iconst 1, 1) := by decide +kernel
theorem dX9_addHouse_99 : decode cX9_addHouse 99 = .ok (.iadd, 1) := by decide +kernel
theorem dX9_addHouse_100 : decode cX9_addHouse 100 = .ok (.putfield 91, 3) := by decide +kernel
theorem dX9_addHouse_103 : decode cX9_addHouse 103 = .ok (.aload_n 0, 1) := by decide +kernel
theorem dX9_addHouse_104 : decode cX9_addHouse 104 = .ok (.getfield 91, 3) := by decide +kernel
theorem dX9_addHouse_107 : decode cX9_addHouse 107 = .ok (.iconst 1, 1) := by decide +kernel
theorem dX9_addHouse_108 : decode cX9_addHouse 108 = .ok (.isub, 1) := by decide +kernel
theorem dX9_addHouse_109 : decode cX9_addHouse 109 = .ok (.ireturn, 1) := by decide +kernel
theorem dX9_addRound_0 : decode cX9_addRound 0 = .ok (.aload_n 0, 1) := by decide +kernel
theorem dX9_addRound_1 : decode cX9_addRound 1 = .ok (.iconst 0, 1) := by decide +kernel
theorem dX9_addRound_2 : decode cX9_addRound 2 = .ok (.putfield 81, 3) := by decide +kernel
theorem dX9_addRound_5 : decode cX9_addRound 5 = .ok (.iload_n 1, 1) := by decide +kernel
theorem dX9_addRound_6 : decode cX9_addRound 6 = .ok (.iconst 1, 1) := by decide +kernel
theorem dX9_addRound_7 : decode cX9_addRound 7 = .ok (.sipush 999, 3) := by decide +kernel
theorem dX9_addRound_10 : decode cX9_addRound 10 = .ok (.invokestatic 87, 3) := by decide +kernel
theorem dX9_addRound_13 : decode cX9_addRound 13 = .ok (.ifCond .ne 9, 3) := by decide +kernel
theorem dX9_addRound_16 : decode cX9_addRound 16 = .ok (.aload_n 0, 1) := by decide +kernel
theorem dX9_addRound_17 : decode cX9_addRound 17 = .ok (.iconst 1, 1) := by decide +kernel
theorem dX9_addRound_18 : decode cX9_addRound 18 = .ok (.invokevirtual 100, 3) := by decide +kernel
theorem dX9_addRound_21 : decode cX9_addRound 21 = .ok (.ireturn, 1) := by decide +kernel
theorem dX9_addRound_22 : decode cX9_addRound 22 = .ok (.aload_n 0, 1) := by decide +kernel
theorem dX9_addRound_23 : decode cX9_addRound 23 = .ok (.getfield 94, 3) := by decide +kernel
theorem dX9_addRound_26 : decode cX9_addRound 26 = .ok (.iconst 4, 1) := by decide +kernel
theorem dX9_addRound_27 : decode cX9_addRound 27 = .ok (.if_icmp .ne 9, 3) := by decide +kernel
theorem dX9_addRound_30 : decode cX9_addRound 30 = .ok (.aload_n 0, 1) := by decide +kernel
theorem dX9_addRound_31 : decode cX9_addRound 31 = .ok (.iconst 2, 1) := by decide +kernel
theorem dX9_addRound_32 : decode cX9_addRound 32 = .ok (.invokevirtual 100, 3) := by decide +kernel
theorem dX9_addRound_35 : decode cX9_addRound 35 = .ok (.ireturn, 1) := by decide +kernel
theorem dX9_addRound_36 : decode cX9_addRound 36 = .ok (.aload_n 0, 1) := by decide +kernel
theorem dX9_addRound_37 : decode cX9_addRound 37 = .ok (.getfield 34, 3) := by decide +kernel
theorem dX9_addRound_40 : decode cX9_addRound 40 = .ok (.aload_n 0, 1) := by decide +kernel
theorem dX9_addRound_41 : decode cX9_addRound 41 = .ok (.getfield 94, 3) := by decide +kernel
theorem dX9_addRound_44 : decode cX9_addRound 44 = .ok (.iload_n 1, 1) := by decide +kernel
theorem dX9_addRound_45 : decode cX9_addRound 45 = .ok (.iastore, 1) := by decide +kernel
theorem dX9_addRound_46 : decode cX9_addRound 46 = .ok (.aload_n 0, 1) := by decide +kernel
theorem dX9_addRound_47 : decode cX9_addRound 47 = .ok (.dup, 1) := by decide +kernel
theorem dX9_addRound_48 : decode cX9_addRound 48 = .ok (.getfield 94, 3) := by decide +kernel
theorem dX9_addRound_51 : decode cX9_addRound 51 = .ok (.iconst 1, 1) := by decide +kernel
theorem dX9_addRound_52 : decode cX9_addRound 52 = .ok (.iadd, 1) := by decide +kernel
theorem dX9_addRound_53 : decode cX9_addRound 53 = .ok (.putfield 94, 3) := by decide +kernel
theorem dX9_addRound_56 : decode cX9_addRound 56 = .ok (.aload_n 0, 1) := by decide +kernel
theorem dX9_addRound_57 : decode cX9_addRound 57 = .ok (.getfield 94, 3) := by decide +kernel
theorem dX9_addRound_60 : decode cX9_addRound 60 = .ok (.iconst 1, 1) := by decide +kernel
theorem dX9_addRound_61 : decode cX9_addRound 61 = .ok (.isub, 1) := by decide +kernel
theorem dX9_addRound_62 : decode cX9_addRound 62 = .ok (.ireturn, 1) := by decide +kernel
theorem dX9_assign_0 : decode cX9_assign 0 = .ok (.aload_n 0, 1) := by decide +kernel
theorem dX9_assign_1 : decode cX9_assign 1 = .ok (.iconst 0, 1) := by decide +kernel
theorem dX9_assign_2 : decode cX9_assign 2 = .ok (.putfield 81, 3) := by decide +kernel
theorem dX9_assign_5 : decode cX9_assign 5 = .ok (.aload_n 0, 1) := by decide +kernel
theorem dX9_assign_6 : decode cX9_assign 6 = .ok (.iload_n 1, 1) := by decide +kernel
theorem dX9_assign_7 : decode cX9_assign 7 = .ok (.invokevirtual 108, 3) := by decide +kernel
theorem dX9_assign_10 : decode cX9_assign 10 = .ok (.ifCond .eq 11, 3) := by decide +kernel
theorem dX9_assign_13 : decode cX9_assign 13 = .ok (.aload_n 0, 1) := by decide +kernel
theorem dX9_assign_14 : decode cX9_assign 14 = .ok (.iload_n 2, 1) := by decide +kernel
theorem dX9_assign_15 : decode cX9_assign 15 = .ok (.invokevirtual 111, 3) := by decide +kernel
theorem dX9_assign_18 : decode cX9_assign 18 = .ok (.ifCond .ne 9, 3) := by decide +kernel
theorem dX9_assign_21 : decode cX9_assign 21 = .ok (.aload_n 0, 1) := by decide +kernel
theorem dX9_assign_22 : decode cX9_assign 22 = .ok (.iconst 1, 1) := by decide +kernel
theorem dX9_assign_23 : decode cX9_assign 23 = .ok (.invokevirtual 100, 3) := by decide +kernel
theorem dX9_assign_26 : decode cX9_assign 26 = .ok (.ireturn, 1) := by decide +kernel
theorem dX9_assign_27 : decode cX9_assign 27 = .ok (.aload_n 0, 1) := by decide +kernel
theorem dX9_assign_28 : decode cX9_assign 28 = .ok (.getfield 19, 3) := by decide +kernel
theorem dX9_assign_31 : decode cX9_assign 31 = .ok (.iload_n 1, 1) := by decide +kernel
theorem dX9_assign_32 : decode cX9_assign 32 = .ok (.iaload, 1) := by decide +kernel
theorem dX9_assign_33 : decode cX9_assign 33 = .ok (.istore_n 3, 1) := by decide +kernel
theorem dX9_assign_34 : decode cX9_assign 34 = .ok (.aload_n 0, 1) := by decide +kernel
theorem dX9_assign_35 : decode cX9_assign 35 = .ok (.getfield 19, 3) := by decide +kernel
theorem dX9_assign_38 : decode cX9_assign 38 = .ok (.iload_n 1, 1) := by decide +kernel
theorem dX9_assign_39 : decode cX9_assign 39 = .ok (.iload_n 2, 1) := by decide +kernel
theorem dX9_assign_40 : decode cX9_assign 40 = .ok (.iastore, 1) := by decide +kernel
theorem dX9_assign_41 : decode cX9_assign 41 = .ok (.iload_n 3, 1) := by decide +kernel
theorem dX9_assign_42 : decode cX9_assign 42 = .ok (.ireturn, 1) := by decide +kernel
theorem dX9_setBag_0 : decode cX9_setBag 0 = .ok (.aload_n 0, 1) := by decide +kernel
theorem dX9_setBag_1 : decode cX9_setBag 1 = .ok (.iconst 0, 1) := by decide +kernel
theorem dX9_setBag_2 : decode cX9_setBag 2 = .ok (.putfield 81, 3) := by decide +kernel
theorem dX9_setBag_5 : decode cX9_setBag 5 = .ok (.iload_n 1, 1) := by decide +kernel
theorem dX9_setBag_6 : decode cX9_setBag 6 = .ok (.iconst 0, 1) := by decide +kernel
theorem dX9_setBag_7 : decode cX9_setBag 7 = .ok (.bipush 99, 2) := by decide +kernel
theorem dX9_setBag_9 : decode cX9_setBag 9 = .ok (.invokestatic 87, 3) := by decide +kernel
theorem dX9_setBag_12 : decode cX9_setBag 12 = .ok (.ifCond .ne 9, 3) := by decide +kernel
theorem dX9_setBag_15 : decode cX9_setBag 15 = .ok (.aload_n 0, 1) := by decide +kernel
theorem dX9_setBag_16 : decode cX9_setBag 16 = .ok (.iconst 1, 1) := by decide +kernel
theorem dX9_setBag_17 : decode cX9_setBag 17 = .ok (.invokevirtual 100, 3) := by decide +kernel
theorem dX9_setBag_20 : decode cX9_setBag 20 = .ok (.ireturn, 1) := by decide +kernel
theorem dX9_setBag_21 : decode cX9_setBag 21 = .ok (.aload_n 0, 1) := by decide +kernel
theorem dX9_setBag_22 : decode cX9_setBag 22 = .ok (.getfield 57, 3) := by decide +kernel
theorem dX9_setBag_25 : decode cX9_setBag 25 = .ok (.istore_n 2, 1) := by decide +kernel
theorem dX9_setBag_26 : decode cX9_setBag 26 = .ok (.aload_n 0, 1) := by decide +kernel
theorem dX9_setBag_27 : decode cX9_setBag 27 = .ok (.iload_n 1, 1) := by decide +kernel
theorem dX9_setBag_28 : decode cX9_setBag 28 = .ok (.putfield 57, 3) := by decide +kernel
theorem dX9_setBag_31 : decode cX9_setBag 31 = .ok (.iload_n 2, 1) := by decide +kernel
theorem dX9_setBag_32 : decode cX9_setBag 32 = .ok (.ireturn, 1) := by decide +kernel
theorem dX9_letters_0 : decode cX9_letters 0 = .ok (.aload_n 0, 1) := by decide +kernel
theorem dX9_letters_1 : decode cX9_letters 1 = .ok (.iconst 0, 1) := by decide +kernel
theorem dX9_letters_2 : decode cX9_letters 2 = .ok (.putfield 81, 3) := by decide +kernel
theorem dX9_letters_5 : decode cX9_letters 5 = .ok (.aload_n 0, 1) := by decide +kernel
theorem dX9_letters_6 : decode cX9_letters 6 = .ok (.iload_n 1, 1) := by decide +kernel
theorem dX9_letters_7 : decode cX9_letters 7 = .ok (.invokevirtual 114, 3) := by decide +kernel
theorem dX9_letters_10 : decode cX9_letters 10 = .ok (.ifCond .ne 9, 3) := by decide +kernel
theorem dX9_letters_13 : decode cX9_letters 13 = .ok (.aload_n 0, 1) := by decide +kernel
theorem dX9_letters_14 : decode cX9_letters 14 = .ok (.iconst 1, 1) := by decide +kernel
theorem dX9_letters_15 : decode cX9_letters 15 = .ok (.invokevirtual 100, 3) := by decide +kernel
theorem dX9_letters_18 : decode cX9_letters 18 = .ok (.ireturn, 1) := by decide +kernel
theorem dX9_letters_19 : decode cX9_letters 19 = .ok (.iload_n 2, 1) := by decide +kernel
theorem dX9_letters_20 : decode cX9_letters 20 = .ok (.iconst 1, 1) := by decide +kernel
theorem dX9_letters_21 : decode cX9_letters 21 = .ok (.bipush 20, 2) := by decide +kernel
theorem dX9_letters_23 : decode cX9_letters 23 = .ok (.invokestatic 87, 3) := by decide +kernel
theorem dX9_letters_26 : decode cX9_letters 26 = .ok (.ifCond .ne 9, 3) := by decide +kernel
theorem dX9_letters_29 : decode cX9_letters 29 = .ok (.aload_n 0, 1) := by decide +kernel
theorem dX9_letters_30 : decode cX9_letters 30 = .ok (.iconst 2, 1) := by decide +kernel
theorem dX9_letters_31 : decode cX9_letters 31 = .ok (.invokevirtual 100, 3) := by decide +kernel
theorem dX9_letters_34 : decode cX9_letters 34 = .ok (.ireturn, 1) := by decide +kernel
theorem dX9_letters_35 : decode cX9_letters 35 = .ok (.aload_n 0, 1) := by decide +kernel
theorem dX9_letters_36 : decode cX9_letters 36 = .ok (.getfield 31, 3) := by decide +kernel
theorem dX9_letters_39 : decode cX9_letters 39 = .ok (.iload_n 1, 1) := by decide +kernel
theorem dX9_letters_40 : decode cX9_letters 40 = .ok (.iaload, 1) := by decide +kernel
theorem dX9_letters_41 : decode cX9_letters 41 = .ok (.iload_n 2, 1) := by decide +kernel
theorem dX9_letters_42 : decode cX9_letters 42 = .ok (.iadd, 1) := by decide +kernel
theorem dX9_letters_43 : decode cX9_letters 43 = .ok (.bipush 99, 2) := by decide +kernel
theorem dX9_letters_45 : decode cX9_letters 45 = .ok (.if_icmp .le 9, 3) := by decide +kernel
theorem dX9_letters_48 : decode cX9_letters 48 = .ok (.aload_n 0, 1) := by decide +kernel
theorem dX9_letters_49 : decode cX9_letters 49 = .ok (.iconst 3, 1) := by decide +kernel
theorem dX9_letters_50 : decode cX9_letters 50 = .ok (.invokevirtual 100, 3) := by decide +kernel
theorem dX9_letters_53 : decode cX9_letters 53 = .ok (.ireturn, 1) := by decide +kernel
theorem dX9_letters_54 : decode cX9_letters 54 = .ok (.aload_n 0, 1) := by decide +kernel
theorem dX9_letters_55 : decode cX9_letters 55 = .ok (.getfield 31, 3) := by decide +kernel
theorem dX9_letters_58 : decode cX9_letters 58 = .ok (.iload_n 1, 1) := by decide +kernel
theorem dX9_letters_59 : decode cX9_letters 59 = .ok (.dup2, 1) := by decide +kernel
theorem dX9_letters_60 : decode cX9_letters 60 = .ok (.iaload, 1) := by decide +kernel
theorem dX9_letters_61 : decode cX9_letters 61 = .ok (.iload_n 2, 1) := by decide +kernel
theorem dX9_letters_62 : decode cX9_letters 62 = .ok (.iadd, 1) := by decide +kernel
theorem dX9_letters_63 : decode cX9_letters 63 = .ok (.iastore, 1) := by decide +kernel
theorem dX9_letters_64 : decode cX9_letters 64 = .ok (.aload_n 0, 1) := by decide +kernel
theorem dX9_letters_65 : decode cX9_letters 65 = .ok (.getfield 31, 3) := by decide +kernel
theorem dX9_letters_68 : decode cX9_letters 68 = .ok (.iload_n 1, 1) := by decide +kernel
theorem dX9_letters_69 : decode cX9_letters 69 = .ok (.iaload, 1) := by decide +kernel
theorem dX9_letters_70 : decode cX9_letters 70 = .ok (.ireturn, 1) := by decide +kernel
theorem dX9_parcel_0 : decode cX9_parcel 0 = .ok (.aload_n 0, 1) := by decide +kernel
theorem dX9_parcel_1 : decode cX9_parcel 1 = .ok (.iconst 0, 1) := by decide +kernel
theorem dX9_parcel_2 : decode cX9_parcel 2 = .ok (.putfield 81, 3) := by decide +kernel
theorem dX9_parcel_5 : decode cX9_parcel 5 = .ok (.aload_n 0, 1) := by decide +kernel
theorem dX9_parcel_6 : decode cX9_parcel 6 = .ok (.iload_n 1, 1) := by decide +kernel
theorem dX9_parcel_7 : decode cX9_parcel 7 = .ok (.invokevirtual 114, 3) := by decide +kernel
theorem dX9_parcel_10 : decode cX9_parcel 10 = .ok (.ifCond .ne 9, 3) := by decide +kernel
theorem dX9_parcel_13 : decode cX9_parcel 13 = .ok (.aload_n 0, 1) := by decide +kernel
theorem dX9_parcel_14 : decode cX9_parcel 14 = .ok (.iconst 1, 1) := by decide +kernel
theorem dX9_parcel_15 : decode cX9_parcel 15 = .ok (.invokevirtual 100, 3) := by decide +kernel
theorem dX9_parcel_18 : decode cX9_parcel 18 = .ok (.ireturn, 1) := by decide +kernel
theorem dX9_parcel_19 : decode cX9_parcel 19 = .ok (.iload_n 2, 1) := by decide +kernel
theorem dX9_parcel_20 : decode cX9_parcel 20 = .ok (.iconst 1, 1) := by decide +kernel
theorem dX9_parcel_21 : decode cX9_parcel 21 = .ok (.bipush 99, 2) := by decide +kernel
theorem dX9_parcel_23 : decode cX9_parcel 23 = .ok (.invokestatic 87, 3) := by decide +kernel
theorem dX9_parcel_26 : decode cX9_parcel 26 = .ok (.ifCond .eq 14, 3) := by decide +kernel
theorem dX9_parcel_29 : decode cX9_parcel 29 = .ok (.iload_n 3, 1) := by decide +kernel
theorem dX9_parcel_30 : decode cX9_parcel 30 = .ok (.iconst 1, 1) := by decide +kernel
theorem dX9_parcel_31 : decode cX9_parcel 31 = .ok (.sipush 999, 3) := by decide +kernel
theorem dX9_parcel_34 : decode cX9_parcel 34 = .ok (.invokestatic 87, 3) := by decide +kernel
theorem dX9_parcel_37 : decode cX9_parcel 37 = .ok (.ifCond .ne 9, 3) := by decide +kernel
theorem dX9_parcel_40 : decode cX9_parcel 40 = .ok (.aload_n 0, 1) := by decide +kernel
theorem dX9_parcel_41 : decode cX9_parcel 41 = .ok (.iconst 2, 1) := by decide +kernel
theorem dX9_parcel_42 : decode cX9_parcel 42 = .ok (.invokevirtual 100, 3) := by decide +kernel
theorem dX9_parcel_45 : decode cX9_parcel 45 = .ok (.ireturn, 1) := by decide +kernel
theorem dX9_parcel_46 : decode cX9_parcel 46 = .ok (.aload_n 0, 1) := by decide +kernel
theorem dX9_parcel_47 : decode cX9_parcel 47 = .ok (.getfield 97, 3) := by decide +kernel
theorem dX9_parcel_50 : decode cX9_parcel 50 = .ok (.bipush 20, 2) := by decide +kernel
theorem dX9_parcel_52 : decode cX9_parcel 52 = .ok (.if_icmp .ne 9, 3) := by decide +kernel
theorem dX9_parcel_55 : decode cX9_parcel 55 = .ok (.aload_n 0, 1) := by decide +kernel
theorem dX9_parcel_56 : decode cX9_parcel 56 = .ok (.iconst 3, 1) := by decide +kernel
theorem dX9_parcel_57 : decode cX9_parcel 57 = .ok (.invokevirtual 100, 3) := by decide +kernel
theorem dX9_parcel_60 : decode cX9_parcel 60 = .ok (.ireturn, 1) := by decide +kernel
theorem dX9_parcel_61 : decode cX9_parcel 61 = .ok (.aload_n 0, 1) := by decide +kernel
theorem dX9_parcel_62 : decode cX9_parcel 62 = .ok (.getfield 37, 3) := by decide +kernel
theorem dX9_parcel_65 : decode cX9_parcel 65 = .ok (.aload_n 0, 1) := by decide +kernel
theorem dX9_parcel_66 : decode cX9_parcel 66 = .ok (.getfield 97, 3) := by decide +kernel
theorem dX9_parcel_69 : decode cX9_parcel 69 = .ok (.iload_n 1, 1) := by decide +kernel
theorem dX9_parcel_70 : decode cX9_parcel 70 = .ok (.iastore, 1) := by decide +kernel
theorem dX9_parcel_71 : decode cX9_parcel 71 = .ok (.aload_n 0, 1) := by decide +kernel
theorem dX9_parcel_72 : decode cX9_parcel 72 = .ok (.getfield 40, 3) := by decide +kernel
theorem dX9_parcel_75 : decode cX9_parcel 75 = .ok (.aload_n 0, 1) := by decide +kernel
theorem dX9_parcel_76 : decode cX9_parcel 76 = .ok (.getfield 97, 3) := by decide +kernel
theorem dX9_parcel_79 : decode cX9_parcel 79 = .ok (.iload_n 2, 1) := by decide +kernel
theorem dX9_parcel_80 : decode cX9_parcel 80 = .ok (.iastore, 1) := by decide +kernel
theorem dX9_parcel_81 : decode cX9_parcel 81 = .ok (.aload_n 0, 1) := by decide +kernel
theorem dX9_parcel_82 : decode cX9_parcel 82 = .ok (.getfield 43, 3) := by decide +kernel
theorem dX9_parcel_85 : decode cX9_parcel 85 = .ok (.aload_n 0, 1) := by decide +kernel
theorem dX9_parcel_86 : decode cX9_parcel 86 = .ok (.getfield 97, 3) := by decide +kernel
theorem dX9_parcel_89 : decode cX9_parcel 89 = .ok (.iload_n 3, 1) := by decide +kernel
theorem dX9_parcel_90 : decode cX9_parcel 90 = .ok (.iastore, 1) := by decide +kernel
theorem dX9_parcel_91 : decode cX9_parcel 91 = .ok (.aload_n 0, 1) := by decide +kernel
theorem dX9_parcel_92 : decode cX9_parcel 92 = .ok (.getfield 50, 3) := by decide +kernel
theorem dX9_parcel_95 : decode cX9_parcel 95 = .ok (.aload_n 0, 1) := by decide +kernel
theorem dX9_parcel_96 : decode cX9_parcel 96 = .ok (.getfield 97, 3) := by decide +kernel
theorem dX9_parcel_99 : decode cX9_parcel 99 = .ok (.iconst 0, 1) := by decide +kernel
theorem dX9_parcel_100 : decode cX9_parcel 100 = .ok (.bastore, 1) := by decide +kernel
theorem dX9_parcel_101 : decode cX9_parcel 101 = .ok (.aload_n 0, 1) := by decide +kernel
theorem dX9_parcel_102 : decode cX9_parcel 102 = .ok (.dup, 1) := by decide +kernel
theorem dX9_parcel_103 : decode cX9_parcel 103 = .ok (.getfield 97, 3) := by decide +kernel
theorem dX9_parcel_106 : decode cX9_parcel 106 = .ok (.iconst 1, 1) := by decide +kernel
theorem dX9_parcel_107 : decode cX9_parcel 107 = .ok (.iadd, 1) := by decide +kernel
theorem dX9_parcel_108 : decode cX9_parcel 108 = .ok (.putfield 97, 3) := by decide +kernel
theorem dX9_parcel_111 : decode cX9_parcel 111 = .ok (.aload_n 0, 1) := by decide +kernel
theorem dX9_parcel_112 : decode cX9_parcel 112 = .ok (.getfield 97, 3) := by decide +kernel
theorem dX9_parcel_115 : decode cX9_parcel 115 = .ok (.iconst 1, 1) := by decide +kernel
theorem dX9_parcel_116 : decode cX9_parcel 116 = .ok (.isub, 1) := by decide +kernel
theorem dX9_parcel_117 : decode cX9_parcel 117 = .ok (.ireturn, 1) := by decide +kernel
theorem dX9_isLight_0 : decode cX9_isLight 0 = .ok (.aload_n 0, 1) := by decide +kernel
theorem dX9_isLight_1 : decode cX9_isLight 1 = .ok (.getfield 40, 3) := by decide +kernel
theorem dX9_isLight_4 : decode cX9_isLight 4 = .ok (.iload_n 1, 1) := by decide +kernel
theorem dX9_isLight_5 : decode cX9_isLight 5 = .ok (.iaload, 1) := by decide +kernel
theorem dX9_isLight_6 : decode cX9_isLight 6 = .ok (.aload_n 0, 1) := by decide +kernel
theorem dX9_isLight_7 : decode cX9_isLight 7 = .ok (.getfield 57, 3) := by decide +kernel
theorem dX9_isLight_10 : decode cX9_isLight 10 = .ok (.if_icmp .gt 16, 3) := by decide +kernel
theorem dX9_isLight_13 : decode cX9_isLight 13 = .ok (.aload_n 0, 1) := by decide +kernel
theorem dX9_isLight_14 : decode cX9_isLight 14 = .ok (.getfield 50, 3) := by decide +kernel
theorem dX9_isLight_17 : decode cX9_isLight 17 = .ok (.iload_n 1, 1) := by decide +kernel
theorem dX9_isLight_18 : decode cX9_isLight 18 = .ok (.baload, 1) := by decide +kernel
theorem dX9_isLight_19 : decode cX9_isLight 19 = .ok (.ifCond .ne 7, 3) := by decide +kernel
theorem dX9_isLight_22 : decode cX9_isLight 22 = .ok (.iconst 1, 1) := by decide +kernel
theorem dX9_isLight_23 : decode cX9_isLight 23 = .ok (.goto 4, 3) := by decide +kernel
theorem dX9_isLight_26 : decode cX9_isLight 26 = .ok (.iconst 0, 1) := by decide +kernel
theorem dX9_isLight_27 : decode cX9_isLight 27 = .ok (.ireturn, 1) := by decide +kernel
theorem dX9_lights_0 : decode cX9_lights 0 = .ok (.iconst 0, 1) := by decide +kernel
theorem dX9_lights_1 : decode cX9_lights 1 = .ok (.istore_n 2, 1) := by decide +kernel
theorem dX9_lights_2 : decode cX9_lights 2 = .ok (.iconst 0, 1) := by decide +kernel
theorem dX9_lights_3 : decode cX9_lights 3 = .ok (.istore_n 3, 1) := by decide +kernel
theorem dX9_lights_4 : decode cX9_lights 4 = .ok (.iload_n 3, 1) := by decide +kernel
theorem dX9_lights_5 : decode cX9_lights 5 = .ok (.aload_n 0, 1) := by decide +kernel
theorem dX9_lights_6 : decode cX9_lights 6 = .ok (.getfield 97, 3) := by decide +kernel
theorem dX9_lights_9 : decode cX9_lights 9 = .ok (.if_icmp .ge 35, 3) := by decide +kernel
theorem dX9_lights_12 : decode cX9_lights 12 = .ok (.iload_n 2, 1) := by decide +kernel
theorem dX9_lights_13 : decode cX9_lights 13 = .ok (.aload_n 0, 1) := by decide +kernel
theorem dX9_lights_14 : decode cX9_lights 14 = .ok (.getfield 37, 3) := by decide +kernel
theorem dX9_lights_17 : decode cX9_lights 17 = .ok (.iload_n 3, 1) := by decide +kernel
theorem dX9_lights_18 : decode cX9_lights 18 = .ok (.iaload, 1) := by decide +kernel
theorem dX9_lights_19 : decode cX9_lights 19 = .ok (.iload_n 1, 1) := by decide +kernel
theorem dX9_lights_20 : decode cX9_lights 20 = .ok (.if_icmp .ne 15, 3) := by decide +kernel
theorem dX9_lights_23 : decode cX9_lights 23 = .ok (.aload_n 0, 1) := by decide +kernel
theorem dX9_lights_24 : decode cX9_lights 24 = .ok (.iload_n 3, 1) := by decide +kernel
theorem dX9_lights_25 : decode cX9_lights 25 = .ok (.invokevirtual 117, 3) := by decide +kernel
theorem dX9_lights_28 : decode cX9_lights 28 = .ok (.ifCond .eq 7, 3) := by decide +kernel
theorem dX9_lights_31 : decode cX9_lights 31 = .ok (.iconst 1, 1) := by decide +kernel
theorem dX9_lights_32 : decode cX9_lights 32 = .ok (.goto 4, 3) := by decide +kernel
theorem dX9_lights_35 : decode cX9_lights 35 = .ok (.iconst 0, 1) := by decide +kernel
theorem dX9_lights_36 : decode cX9_lights 36 = .ok (.iadd, 1) := by decide +kernel
theorem dX9_lights_37 : decode cX9_lights 37 = .ok (.istore_n 2, 1) := by decide +kernel
theorem dX9_lights_38 : decode cX9_lights 38 = .ok (.iinc 3 1, 3) := by decide +kernel
theorem dX9_lights_41 : decode cX9_lights 41 = .ok (.goto (-37), 3) := by decide +kernel
theorem dX9_lights_44 : decode cX9_lights 44 = .ok (.iload_n 2, 1) := by decide +kernel
theorem dX9_lights_45 : decode cX9_lights 45 = .ok (.ireturn, 1) := by decide +kernel
theorem dX9_isDueNow_0 : decode cX9_isDueNow 0 = .ok (.aload_n 0, 1) := by decide +kernel
theorem dX9_isDueNow_1 : decode cX9_isDueNow 1 = .ok (.getfield 31, 3) := by decide +kernel
theorem dX9_isDueNow_4 : decode cX9_isDueNow 4 = .ok (.iload_n 1, 1) := by decide +kernel
theorem dX9_isDueNow_5 : decode cX9_isDueNow 5 = .ok (.iaload, 1) := by decide +kernel
theorem dX9_isDueNow_6 : decode cX9_isDueNow 6 = .ok (.ifCond .gt 11, 3) := by decide +kernel
theorem dX9_isDueNow_9 : decode cX9_isDueNow 9 = .ok (.aload_n 0, 1) := by decide +kernel
theorem dX9_isDueNow_10 : decode cX9_isDueNow 10 = .ok (.iload_n 1, 1) := by decide +kernel
theorem dX9_isDueNow_11 : decode cX9_isDueNow 11 = .ok (.invokevirtual 120, 3) := by decide +kernel
theorem dX9_isDueNow_14 : decode cX9_isDueNow 14 = .ok (.ifCond .le 7, 3) := by decide +kernel
theorem dX9_isDueNow_17 : decode cX9_isDueNow 17 = .ok (.iconst 1, 1) := by decide +kernel
theorem dX9_isDueNow_18 : decode cX9_isDueNow 18 = .ok (.goto 4, 3) := by decide +kernel
theorem dX9_isDueNow_21 : decode cX9_isDueNow 21 = .ok (.iconst 0, 1) := by decide +kernel
theorem dX9_isDueNow_22 : decode cX9_isDueNow 22 = .ok (.ireturn, 1) := by decide +kernel
theorem dX9_newDay_0 : decode cX9_newDay 0 = .ok (.aload_n 0, 1) := by decide +kernel
theorem dX9_newDay_1 : decode cX9_newDay 1 = .ok (.iconst 0, 1) := by decide +kernel
theorem dX9_newDay_2 : decode cX9_newDay 2 = .ok (.putfield 81, 3) := by decide +kernel
theorem dX9_newDay_5 : decode cX9_newDay 5 = .ok (.iconst 0, 1) := by decide +kernel
theorem dX9_newDay_6 : decode cX9_newDay 6 = .ok (.istore_n 1, 1) := by decide +kernel
theorem dX9_newDay_7 : decode cX9_newDay 7 = .ok (.iconst 0, 1) := by decide +kernel
theorem dX9_newDay_8 : decode cX9_newDay 8 = .ok (.istore_n 2, 1) := by decide +kernel
theorem dX9_newDay_9 : decode cX9_newDay 9 = .ok (.iload_n 2, 1) := by decide +kernel
theorem dX9_newDay_10 : decode cX9_newDay 10 = .ok (.aload_n 0, 1) := by decide +kernel
theorem dX9_newDay_11 : decode cX9_newDay 11 = .ok (.getfield 91, 3) := by decide +kernel
theorem dX9_newDay_14 : decode cX9_newDay 14 = .ok (.if_icmp .ge 25, 3) := by decide +kernel
theorem dX9_newDay_17 : decode cX9_newDay 17 = .ok (.iload_n 1, 1) := by decide +kernel
theorem dX9_newDay_18 : decode cX9_newDay 18 = .ok (.aload_n 0, 1) := by decide +kernel
theorem dX9_newDay_19 : decode cX9_newDay 19 = .ok (.iload_n 2, 1) := by decide +kernel
theorem dX9_newDay_20 : decode cX9_newDay 20 = .ok (.invokevirtual 123, 3) := by decide +kernel
theorem dX9_newDay_23 : decode cX9_newDay 23 = .ok (.ifCond .eq 7, 3) := by decide +kernel
theorem dX9_newDay_26 : decode cX9_newDay 26 = .ok (.iconst 1, 1) := by decide +kernel
theorem dX9_newDay_27 : decode cX9_newDay 27 = .ok (.goto 4, 3) := by decide +kernel
theorem dX9_newDay_30 : decode cX9_newDay 30 = .ok (.iconst 0, 1) := by decide +kernel
theorem dX9_newDay_31 : decode cX9_newDay 31 = .ok (.iadd, 1) := by decide +kernel
theorem dX9_newDay_32 : decode cX9_newDay 32 = .ok (.istore_n 1, 1) := by decide +kernel
theorem dX9_newDay_33 : decode cX9_newDay 33 = .ok (.iinc 2 1, 3) := by decide +kernel
theorem dX9_newDay_36 : decode cX9_newDay 36 = .ok (.goto (-27), 3) := by decide +kernel
theorem dX9_newDay_39 : decode cX9_newDay 39 = .ok (.iconst 0, 1) := by decide +kernel
theorem dX9_newDay_40 : decode cX9_newDay 40 = .ok (.istore_n 2, 1) := by decide +kernel
theorem dX9_newDay_41 : decode cX9_newDay 41 = .ok (.iload_n 2, 1) := by decide +kernel
theorem dX9_newDay_42 : decode cX9_newDay 42 = .ok (.aload_n 0, 1) := by decide +kernel
theorem dX9_newDay_43 : decode cX9_newDay 43 = .ok (.getfield 91, 3) := by decide +kernel
theorem dX9_newDay_46 : decode cX9_newDay 46 = .ok (.if_icmp .ge 16, 3) := by decide +kernel
theorem dX9_newDay_49 : decode cX9_newDay 49 = .ok (.aload_n 0, 1) := by decide +kernel
theorem dX9_newDay_50 : decode cX9_newDay 50 = .ok (.getfield 31, 3) := by decide +kernel
theorem dX9_newDay_53 : decode cX9_newDay 53 = .ok (.iload_n 2, 1) := by decide +kernel
theorem dX9_newDay_54 : decode cX9_newDay 54 = .ok (.iconst 0, 1) := by decide +kernel
theorem dX9_newDay_55 : decode cX9_newDay 55 = .ok (.iastore, 1) := by decide +kernel
theorem dX9_newDay_56 : decode cX9_newDay 56 = .ok (.iinc 2 1, 3) := by decide +kernel
theorem dX9_newDay_59 : decode cX9_newDay 59 = .ok (.goto (-18), 3) := by decide +kernel
theorem dX9_newDay_62 : decode cX9_newDay 62 = .ok (.aload_n 0, 1) := by decide +kernel
theorem dX9_newDay_63 : decode cX9_newDay 63 = .ok (.iconst 0, 1) := by decide +kernel
theorem dX9_newDay_64 : decode cX9_newDay 64 = .ok (.putfield 97, 3) := by decide +kernel
theorem dX9_newDay_67 : decode cX9_newDay 67 = .ok (.aload_n 0, 1) := by decide +kernel
theorem dX9_newDay_68 : decode cX9_newDay 68 = .ok (.iconst 0, 1) := by decide +kernel
theorem dX9_newDay_69 : decode cX9_newDay 69 = .ok (.putfield 126, 3) := by decide +kernel
theorem dX9_newDay_72 : decode cX9_newDay 72 = .ok (.iload_n 1, 1) := by decide +kernel
theorem dX9_newDay_73 : decode cX9_newDay 73 = .ok (.ireturn, 1) := by decide +kernel
theorem dX9_places_0 : decode cX9_places 0 = .ok (.aload_n 0, 1) := by decide +kernel
theorem dX9_places_1 : decode cX9_places 1 = .ok (.iconst 0, 1) := by decide +kernel
theorem dX9_places_2 : decode cX9_places 2 = .ok (.putfield 81, 3) := by decide +kernel
theorem dX9_places_5 : decode cX9_places 5 = .ok (.aload_n 0, 1) := by decide +kernel
theorem dX9_places_6 : decode cX9_places 6 = .ok (.getfield 53, 3) := by decide +kernel
theorem dX9_places_9 : decode cX9_places 9 = .ok (.ireturn, 1) := by decide +kernel
theorem dX9_streets_0 : decode cX9_streets 0 = .ok (.aload_n 0, 1) := by decide +kernel
theorem dX9_streets_1 : decode cX9_streets 1 = .ok (.iconst 0, 1) := by decide +kernel
theorem dX9_streets_2 : decode cX9_streets 2 = .ok (.putfield 81, 3) := by decide +kernel
theorem dX9_streets_5 : decode cX9_streets 5 = .ok (.aload_n 0, 1) := by decide +kernel
theorem dX9_streets_6 : decode cX9_streets 6 = .ok (.getfield 84, 3) := by decide +kernel
theorem dX9_streets_9 : decode cX9_streets 9 = .ok (.ireturn, 1) := by decide +kernel
theorem dX9_houses_0 : decode cX9_houses 0 = .ok (.aload_n 0, 1) := by decide +kernel
theorem dX9_houses_1 : decode cX9_houses 1 = .ok (.iconst 0, 1) := by decide +kernel
theorem dX9_houses_2 : decode cX9_houses 2 = .ok (.putfield 81, 3) := by decide +kernel
theorem dX9_houses_5 : decode cX9_houses 5 = .ok (.aload_n 0, 1) := by decide +kernel
theorem dX9_houses_6 : decode cX9_houses 6 = .ok (.getfield 91, 3) := by decide +kernel
theorem dX9_houses_9 : decode cX9_houses 9 = .ok (.ireturn, 1) := by decide +kernel
theorem dX9_roundOf_0 : decode cX9_roundOf 0 = .ok (.aload_n 0, 1) := by decide +kernel
theorem dX9_roundOf_1 : decode cX9_roundOf 1 = .ok (.iconst 0, 1) := by decide +kernel
theorem dX9_roundOf_2 : decode cX9_roundOf 2 = .ok (.putfield 81, 3) := by decide +kernel
theorem dX9_roundOf_5 : decode cX9_roundOf 5 = .ok (.aload_n 0, 1) := by decide +kernel
theorem dX9_roundOf_6 : decode cX9_roundOf 6 = .ok (.iload_n 1, 1) := by decide +kernel
theorem dX9_roundOf_7 : decode cX9_roundOf 7 = .ok (.invokevirtual 108, 3) := by decide +kernel
theorem dX9_roundOf_10 : decode cX9_roundOf 10 = .ok (.ifCond .eq 12, 3) := by decide +kernel
theorem dX9_roundOf_13 : decode cX9_roundOf 13 = .ok (.aload_n 0, 1) := by decide +kernel
theorem dX9_roundOf_14 : decode cX9_roundOf 14 = .ok (.getfield 19, 3) := by decide +kernel
theorem dX9_roundOf_17 : decode cX9_roundOf 17 = .ok (.iload_n 1, 1) := by decide +kernel
theorem dX9_roundOf_18 : decode cX9_roundOf 18 = .ok (.iaload, 1) := by decide +kernel
theorem dX9_roundOf_19 : decode cX9_roundOf 19 = .ok (.goto 8, 3) := by decide +kernel
theorem dX9_roundOf_22 : decode cX9_roundOf 22 = .ok (.aload_n 0, 1) := by decide +kernel
theorem dX9_roundOf_23 : decode cX9_roundOf 23 = .ok (.iconst 1, 1) := by decide +kernel
theorem dX9_roundOf_24 : decode cX9_roundOf 24 = .ok (.invokevirtual 100, 3) := by decide +kernel
theorem dX9_roundOf_27 : decode cX9_roundOf 27 = .ok (.ireturn, 1) := by decide +kernel
theorem dX9_houseAt_0 : decode cX9_houseAt 0 = .ok (.aload_n 0, 1) := by decide +kernel
theorem dX9_houseAt_1 : decode cX9_houseAt 1 = .ok (.iconst 0, 1) := by decide +kernel
theorem dX9_houseAt_2 : decode cX9_houseAt 2 = .ok (.putfield 81, 3) := by decide +kernel
theorem dX9_houseAt_5 : decode cX9_houseAt 5 = .ok (.aload_n 0, 1) := by decide +kernel
theorem dX9_houseAt_6 : decode cX9_houseAt 6 = .ok (.iload_n 1, 1) := by decide +kernel
theorem dX9_houseAt_7 : decode cX9_houseAt 7 = .ok (.invokevirtual 108, 3) := by decide +kernel
theorem dX9_houseAt_10 : decode cX9_houseAt 10 = .ok (.ifCond .ne 9, 3) := by decide +kernel
theorem dX9_houseAt_13 : decode cX9_houseAt 13 = .ok (.aload_n 0, 1) := by decide +kernel
theorem dX9_houseAt_14 : decode cX9_houseAt 14 = .ok (.iconst 1, 1) := by decide +kernel
theorem dX9_houseAt_15 : decode cX9_houseAt 15 = .ok (.invokevirtual 100, 3) := by decide +kernel
theorem dX9_houseAt_18 : decode cX9_houseAt 18 = .ok (.ireturn, 1) := by decide +kernel
theorem dX9_houseAt_19 : decode cX9_houseAt 19 = .ok (.iload_n 2, 1) := by decide +kernel
theorem dX9_houseAt_20 : decode cX9_houseAt 20 = .ok (.iconst 0, 1) := by decide +kernel
theorem dX9_houseAt_21 : decode cX9_houseAt 21 = .ok (.iconst 1, 1) := by decide +kernel
theorem dX9_houseAt_22 : decode cX9_houseAt 22 = .ok (.invokestatic 87, 3) := by decide +kernel
theorem dX9_houseAt_25 : decode cX9_houseAt 25 = .ok (.ifCond .ne 9, 3) := by decide +kernel
theorem dX9_houseAt_28 : decode cX9_houseAt 28 = .ok (.aload_n 0, 1) := by decide +kernel
theorem dX9_houseAt_29 : decode cX9_houseAt 29 = .ok (.iconst 2, 1) := by decide +kernel
theorem dX9_houseAt_30 : decode cX9_houseAt 30 = .ok (.invokevirtual 100, 3) := by decide +kernel
theorem dX9_houseAt_33 : decode cX9_houseAt 33 = .ok (.ireturn, 1) := by decide +kernel
theorem dX9_houseAt_34 : decode cX9_houseAt 34 = .ok (.iconst 0, 1) := by decide +kernel
theorem dX9_houseAt_35 : decode cX9_houseAt 35 = .ok (.istore 4, 2) := by decide +kernel
theorem dX9_houseAt_37 : decode cX9_houseAt 37 = .ok (.iload 4, 2) := by decide +kernel
theorem dX9_houseAt_39 : decode cX9_houseAt 39 = .ok (.aload_n 0, 1) := by decide +kernel
theorem dX9_houseAt_40 : decode cX9_houseAt 40 = .ok (.getfield 91, 3) := by decide +kernel
theorem dX9_houseAt_43 : decode cX9_houseAt 43 = .ok (.if_icmp .ge 137, 3) := by decide +kernel
theorem dX9_houseAt_46 : decode cX9_houseAt 46 = .ok (.aload_n 0, 1) := by decide +kernel
theorem dX9_houseAt_47 : decode cX9_houseAt 47 = .ok (.getfield 22, 3) := by decide +kernel
theorem dX9_houseAt_50 : decode cX9_houseAt 50 = .ok (.iload 4, 2) := by decide +kernel
theorem dX9_houseAt_52 : decode cX9_houseAt 52 = .ok (.iaload, 1) := by decide +kernel
theorem dX9_houseAt_53 : decode cX9_houseAt 53 = .ok (.iload_n 1, 1) := by decide +kernel
theorem dX9_houseAt_54 : decode cX9_houseAt 54 = .ok (.if_icmp .ne 120, 3) := by decide +kernel
theorem dX9_houseAt_57 : decode cX9_houseAt 57 = .ok (.aload_n 0, 1) := by decide +kernel
theorem dX9_houseAt_58 : decode cX9_houseAt 58 = .ok (.getfield 25, 3) := by decide +kernel
theorem dX9_houseAt_61 : decode cX9_houseAt 61 = .ok (.iload 4, 2) := by decide +kernel
theorem dX9_houseAt_63 : decode cX9_houseAt 63 = .ok (.iaload, 1) := by decide +kernel
theorem dX9_houseAt_64 : decode cX9_houseAt 64 = .ok (.iload_n 2, 1) := by decide +kernel
theorem dX9_houseAt_65 : decode cX9_houseAt 65 = .ok (.if_icmp .eq 6, 3) := by decide +kernel
theorem dX9_houseAt_68 : decode cX9_houseAt 68 = .ok (.goto 106, 3) := by decide +kernel
theorem dX9_houseAt_71 : decode cX9_houseAt 71 = .ok (.iconst 0, 1) := by decide +kernel
theorem dX9_houseAt_72 : decode cX9_houseAt 72 = .ok (.istore 5, 2) := by decide +kernel
theorem dX9_houseAt_74 : decode cX9_houseAt 74 = .ok (.iconst 0, 1) := by decide +kernel
theorem dX9_houseAt_75 : decode cX9_houseAt 75 = .ok (.istore 6, 2) := by decide +kernel
theorem dX9_houseAt_77 : decode cX9_houseAt 77 = .ok (.iload 6, 2) := by decide +kernel
theorem dX9_houseAt_79 : decode cX9_houseAt 79 = .ok (.aload_n 0, 1) := by decide +kernel
theorem dX9_houseAt_80 : decode cX9_houseAt 80 = .ok (.getfield 91, 3) := by decide +kernel
theorem dX9_houseAt_83 : decode cX9_houseAt 83 = .ok (.if_icmp .ge 82, 3) := by decide +kernel
theorem dX9_houseAt_86 : decode cX9_houseAt 86 = .ok (.iload 5, 2) := by decide +kernel
theorem dX9_houseAt_88 : decode cX9_houseAt 88 = .ok (.aload_n 0, 1) := by decide +kernel
theorem dX9_houseAt_89 : decode cX9_houseAt 89 = .ok (.getfield 22, 3) := by decide +kernel
theorem dX9_houseAt_92 : decode cX9_houseAt 92 = .ok (.iload 6, 2) := by decide +kernel
theorem dX9_houseAt_94 : decode cX9_houseAt 94 = .ok (.iaload, 1) := by decide +kernel
theorem dX9_houseAt_95 : decode cX9_houseAt 95 = .ok (.iload_n 1, 1) := by decide +kernel
theorem dX9_houseAt_96 : decode cX9_houseAt 96 = .ok (.if_icmp .ne 59, 3) := by decide +kernel
theorem dX9_houseAt_99 : decode cX9_houseAt 99 = .ok (.aload_n 0, 1) := by decide +kernel
theorem dX9_houseAt_100 : decode cX9_houseAt 100 = .ok (.getfield 25, 3) := by decide +kernel
theorem dX9_houseAt_103 : decode cX9_houseAt 103 = .ok (.iload 6, 2) := by decide +kernel
theorem dX9_houseAt_105 : decode cX9_houseAt 105 = .ok (.iaload, 1) := by decide +kernel
theorem dX9_houseAt_106 : decode cX9_houseAt 106 = .ok (.iload_n 2, 1) := by decide +kernel
theorem dX9_houseAt_107 : decode cX9_houseAt 107 = .ok (.if_icmp .ne 48, 3) := by decide +kernel
theorem dX9_houseAt_110 : decode cX9_houseAt 110 = .ok (.aload_n 0, 1) := by decide +kernel
theorem dX9_houseAt_111 : decode cX9_houseAt 111 = .ok (.getfield 28, 3) := by decide +kernel
theorem dX9_houseAt_114 : decode cX9_houseAt 114 = .ok (.iload 6, 2) := by decide +kernel
theorem dX9_houseAt_116 : decode cX9_houseAt 116 = .ok (.iaload, 1) := by decide +kernel
theorem dX9_houseAt_117 : decode cX9_houseAt 117 = .ok (.aload_n 0, 1) := by decide +kernel
theorem dX9_houseAt_118 : decode cX9_houseAt 118 = .ok (.getfield 28, 3) := by decide +kernel
theorem dX9_houseAt_121 : decode cX9_houseAt 121 = .ok (.iload 4, 2) := by decide +kernel
theorem dX9_houseAt_123 : decode cX9_houseAt 123 = .ok (.iaload, 1) := by decide +kernel
theorem dX9_houseAt_124 : decode cX9_houseAt 124 = .ok (.if_icmp .lt 27, 3) := by decide +kernel
theorem dX9_houseAt_127 : decode cX9_houseAt 127 = .ok (.aload_n 0, 1) := by decide +kernel
theorem dX9_houseAt_128 : decode cX9_houseAt 128 = .ok (.getfield 28, 3) := by decide +kernel
theorem dX9_houseAt_131 : decode cX9_houseAt 131 = .ok (.iload 6, 2) := by decide +kernel
theorem dX9_houseAt_133 : decode cX9_houseAt 133 = .ok (.iaload, 1) := by decide +kernel
theorem dX9_houseAt_134 : decode cX9_houseAt 134 = .ok (.aload_n 0, 1) := by decide +kernel
theorem dX9_houseAt_135 : decode cX9_houseAt 135 = .ok (.getfield 28, 3) := by decide +kernel
theorem dX9_houseAt_138 : decode cX9_houseAt 138 = .ok (.iload 4, 2) := by decide +kernel
theorem dX9_houseAt_140 : decode cX9_houseAt 140 = .ok (.iaload, 1) := by decide +kernel
theorem dX9_houseAt_141 : decode cX9_houseAt 141 = .ok (.if_icmp .ne 14, 3) := by decide +kernel
theorem dX9_houseAt_144 : decode cX9_houseAt 144 = .ok (.iload 6, 2) := by decide +kernel
theorem dX9_houseAt_146 : decode cX9_houseAt 146 = .ok (.iload 4, 2) := by decide +kernel
theorem dX9_houseAt_148 : decode cX9_houseAt 148 = .ok (.if_icmp .ge 7, 3) := by decide +kernel
theorem dX9_houseAt_151 : decode cX9_houseAt 151 = .ok (.iconst 1, 1) := by decide +kernel
theorem dX9_houseAt_152 : decode cX9_houseAt 152 = .ok (.goto 4, 3) := by decide +kernel
theorem dX9_houseAt_155 : decode cX9_houseAt 155 = .ok (.iconst 0, 1) := by decide +kernel
theorem dX9_houseAt_156 : decode cX9_houseAt 156 = .ok (.iadd, 1) := by decide +kernel
theorem dX9_houseAt_157 : decode cX9_houseAt 157 = .ok (.istore 5, 2) := by decide +kernel
theorem dX9_houseAt_159 : decode cX9_houseAt 159 = .ok (.iinc 6 1, 3) := by decide +kernel
theorem dX9_houseAt_162 : decode cX9_houseAt 162 = .ok (.goto (-85), 3) := by decide +kernel
theorem dX9_houseAt_165 : decode cX9_houseAt 165 = .ok (.iload 5, 2) := by decide +kernel
theorem dX9_houseAt_167 : decode cX9_houseAt 167 = .ok (.iload_n 3, 1) := by decide +kernel
theorem dX9_houseAt_168 : decode cX9_houseAt 168 = .ok (.if_icmp .ne 6, 3) := by decide +kernel
theorem dX9_houseAt_171 : decode cX9_houseAt 171 = .ok (.iload 4, 2) := by decide +kernel
theorem dX9_houseAt_173 : decode cX9_houseAt 173 = .ok (.ireturn, 1) := by decide +kernel
theorem dX9_houseAt_174 : decode cX9_houseAt 174 = .ok (.iinc 4 1, 3) := by decide +kernel
theorem dX9_houseAt_177 : decode cX9_houseAt 177 = .ok (.goto (-140), 3) := by decide +kernel
theorem dX9_houseAt_180 : decode cX9_houseAt 180 = .ok (.aload_n 0, 1) := by decide +kernel
theorem dX9_houseAt_181 : decode cX9_houseAt 181 = .ok (.iconst 3, 1) := by decide +kernel
theorem dX9_houseAt_182 : decode cX9_houseAt 182 = .ok (.invokevirtual 100, 3) := by decide +kernel
theorem dX9_houseAt_185 : decode cX9_houseAt 185 = .ok (.ireturn, 1) := by decide +kernel
theorem dX9_lettersOf_0 : decode cX9_lettersOf 0 = .ok (.aload_n 0, 1) := by decide +kernel
theorem dX9_lettersOf_1 : decode cX9_lettersOf 1 = .ok (.iconst 0, 1) := by decide +kernel
theorem dX9_lettersOf_2 : decode cX9_lettersOf 2 = .ok (.putfield 81, 3) := by decide +kernel
theorem dX9_lettersOf_5 : decode cX9_lettersOf 5 = .ok (.aload_n 0, 1) := by decide +kernel
theorem dX9_lettersOf_6 : decode cX9_lettersOf 6 = .ok (.iload_n 1, 1) := by decide +kernel
theorem dX9_lettersOf_7 : decode cX9_lettersOf 7 = .ok (.invokevirtual 114, 3) := by decide +kernel
theorem dX9_lettersOf_10 : decode cX9_lettersOf 10 = .ok (.ifCond .eq 12, 3) := by decide +kernel
theorem dX9_lettersOf_13 : decode cX9_lettersOf 13 = .ok (.aload_n 0, 1) := by decide +kernel
theorem dX9_lettersOf_14 : decode cX9_lettersOf 14 = .ok (.getfield 31, 3) := by decide +kernel
theorem dX9_lettersOf_17 : decode cX9_lettersOf 17 = .ok (.iload_n 1, 1) := by decide +kernel
theorem dX9_lettersOf_18 : decode cX9_lettersOf 18 = .ok (.iaload, 1) := by decide +kernel
theorem dX9_lettersOf_19 : decode cX9_lettersOf 19 = .ok (.goto 8, 3) := by decide +kernel
theorem dX9_lettersOf_22 : decode cX9_lettersOf 22 = .ok (.aload_n 0, 1) := by decide +kernel
theorem dX9_lettersOf_23 : decode cX9_lettersOf 23 = .ok (.iconst 1, 1) := by decide +kernel
theorem dX9_lettersOf_24 : decode cX9_lettersOf 24 = .ok (.invokevirtual 100, 3) := by decide +kernel
theorem dX9_lettersOf_27 : decode cX9_lettersOf 27 = .ok (.ireturn, 1) := by decide +kernel
theorem dX9_isDue_0 : decode cX9_isDue 0 = .ok (.aload_n 0, 1) := by decide +kernel
theorem dX9_isDue_1 : decode cX9_isDue 1 = .ok (.iconst 0, 1) := by decide +kernel
theorem dX9_isDue_2 : decode cX9_isDue 2 = .ok (.putfield 81, 3) := by decide +kernel
theorem dX9_isDue_5 : decode cX9_isDue 5 = .ok (.aload_n 0, 1) := by decide +kernel
theorem dX9_isDue_6 : decode cX9_isDue 6 = .ok (.iload_n 1, 1) := by decide +kernel
theorem dX9_isDue_7 : decode cX9_isDue 7 = .ok (.invokevirtual 114, 3) := by decide +kernel
theorem dX9_isDue_10 : decode cX9_isDue 10 = .ok (.ifCond .eq 11, 3) := by decide +kernel
theorem dX9_isDue_13 : decode cX9_isDue 13 = .ok (.aload_n 0, 1) := by decide +kernel
theorem dX9_isDue_14 : decode cX9_isDue 14 = .ok (.iload_n 1, 1) := by decide +kernel
theorem dX9_isDue_15 : decode cX9_isDue 15 = .ok (.invokevirtual 123, 3) := by decide +kernel
theorem dX9_isDue_18 : decode cX9_isDue 18 = .ok (.goto 16, 3) := by decide +kernel
theorem dX9_isDue_21 : decode cX9_isDue 21 = .ok (.aload_n 0, 1) := by decide +kernel
theorem dX9_isDue_22 : decode cX9_isDue 22 = .ok (.iconst 1, 1) := by decide +kernel
theorem dX9_isDue_23 : decode cX9_isDue 23 = .ok (.invokevirtual 100, 3) := by decide +kernel
theorem dX9_isDue_26 : decode cX9_isDue 26 = .ok (.ifCond .le 7, 3) := by decide +kernel
theorem dX9_isDue_29 : decode cX9_isDue 29 = .ok (.iconst 1, 1) := by decide +kernel
theorem dX9_isDue_30 : decode cX9_isDue 30 = .ok (.goto 4, 3) := by decide +kernel
theorem dX9_isDue_33 : decode cX9_isDue 33 = .ok (.iconst 0, 1) := by decide +kernel
theorem dX9_isDue_34 : decode cX9_isDue 34 = .ok (.ireturn, 1) := by decide +kernel
theorem dX9_isAt_0 : decode cX9_isAt 0 = .ok (.aload_n 0, 1) := by decide +kernel
theorem dX9_isAt_1 : decode cX9_isAt 1 = .ok (.getfield 19, 3) := by decide +kernel
theorem dX9_isAt_4 : decode cX9_isAt 4 = .ok (.aload_n 0, 1) := by decide +kernel
theorem dX9_isAt_5 : decode cX9_isAt 5 = .ok (.getfield 22, 3) := by decide +kernel
theorem dX9_isAt_8 : decode cX9_isAt 8 = .ok (.iload_n 1, 1) := by decide +kernel
theorem dX9_isAt_9 : decode cX9_isAt 9 = .ok (.iaload, 1) := by decide +kernel
theorem dX9_isAt_10 : decode cX9_isAt 10 = .ok (.iaload, 1) := by decide +kernel
theorem dX9_isAt_11 : decode cX9_isAt 11 = .ok (.ifCond .lt 26, 3) := by decide +kernel
theorem dX9_isAt_14 : decode cX9_isAt 14 = .ok (.iload_n 2, 1) := by decide +kernel
theorem dX9_isAt_15 : decode cX9_isAt 15 = .ok (.aload_n 0, 1) := by decide +kernel
theorem dX9_isAt_16 : decode cX9_isAt 16 = .ok (.getfield 19, 3) := by decide +kernel
theorem dX9_isAt_19 : decode cX9_isAt 19 = .ok (.aload_n 0, 1) := by decide +kernel
theorem dX9_isAt_20 : decode cX9_isAt 20 = .ok (.getfield 22, 3) := by decide +kernel
theorem dX9_isAt_23 : decode cX9_isAt 23 = .ok (.iload_n 1, 1) := by decide +kernel
theorem dX9_isAt_24 : decode cX9_isAt 24 = .ok (.iaload, 1) := by decide +kernel
theorem dX9_isAt_25 : decode cX9_isAt 25 = .ok (.iaload, 1) := by decide +kernel
theorem dX9_isAt_26 : decode cX9_isAt 26 = .ok (.ishr, 1) := by decide +kernel
theorem dX9_isAt_27 : decode cX9_isAt 27 = .ok (.iconst 1, 1) := by decide +kernel
theorem dX9_isAt_28 : decode cX9_isAt 28 = .ok (.iand, 1) := by decide +kernel
theorem dX9_isAt_29 : decode cX9_isAt 29 = .ok (.iconst 1, 1) := by decide +kernel
theorem dX9_isAt_30 : decode cX9_isAt 30 = .ok (.if_icmp .ne 7, 3) := by decide +kernel
theorem dX9_isAt_33 : decode cX9_isAt 33 = .ok (.iconst 1, 1) := by decide +kernel
theorem dX9_isAt_34 : decode cX9_isAt 34 = .ok (.goto 4, 3) := by decide +kernel
theorem dX9_isAt_37 : decode cX9_isAt 37 = .ok (.iconst 0, 1) := by decide +kernel
theorem dX9_isAt_38 : decode cX9_isAt 38 = .ok (.ireturn, 1) := by decide +kernel
theorem dX9_dueAt_0 : decode cX9_dueAt 0 = .ok (.iconst 0, 1) := by decide +kernel
theorem dX9_dueAt_1 : decode cX9_dueAt 1 = .ok (.istore_n 2, 1) := by decide +kernel
theorem dX9_dueAt_2 : decode cX9_dueAt 2 = .ok (.iconst 0, 1) := by decide +kernel
theorem dX9_dueAt_3 : decode cX9_dueAt 3 = .ok (.istore_n 3, 1) := by decide +kernel
theorem dX9_dueAt_4 : decode cX9_dueAt 4 = .ok (.iload_n 3, 1) := by decide +kernel
theorem dX9_dueAt_5 : decode cX9_dueAt 5 = .ok (.aload_n 0, 1) := by decide +kernel
theorem dX9_dueAt_6 : decode cX9_dueAt 6 = .ok (.getfield 91, 3) := by decide +kernel
theorem dX9_dueAt_9 : decode cX9_dueAt 9 = .ok (.if_icmp .ge 34, 3) := by decide +kernel
theorem dX9_dueAt_12 : decode cX9_dueAt 12 = .ok (.iload_n 2, 1) := by decide +kernel
theorem dX9_dueAt_13 : decode cX9_dueAt 13 = .ok (.aload_n 0, 1) := by decide +kernel
theorem dX9_dueAt_14 : decode cX9_dueAt 14 = .ok (.iload_n 3, 1) := by decide +kernel
theorem dX9_dueAt_15 : decode cX9_dueAt 15 = .ok (.iload_n 1, 1) := by decide +kernel
theorem dX9_dueAt_16 : decode cX9_dueAt 16 = .ok (.invokevirtual 129, 3) := by decide +kernel
theorem dX9_dueAt_19 : decode cX9_dueAt 19 = .ok (.ifCond .eq 15, 3) := by decide +kernel
theorem dX9_dueAt_22 : decode cX9_dueAt 22 = .ok (.aload_n 0, 1) := by decide +kernel
theorem dX9_dueAt_23 : decode cX9_dueAt 23 = .ok (.iload_n 3, 1) := by decide +kernel
theorem dX9_dueAt_24 : decode cX9_dueAt 24 = .ok (.invokevirtual 123, 3) := by decide +kernel
theorem dX9_dueAt_27 : decode cX9_dueAt 27 = .ok (.ifCond .eq 7, 3) := by decide +kernel
theorem dX9_dueAt_30 : decode cX9_dueAt 30 = .ok (.iconst 1, 1) := by decide +kernel
theorem dX9_dueAt_31 : decode cX9_dueAt 31 = .ok (.goto 4, 3) := by decide +kernel
theorem dX9_dueAt_34 : decode cX9_dueAt 34 = .ok (.iconst 0, 1) := by decide +kernel
theorem dX9_dueAt_35 : decode cX9_dueAt 35 = .ok (.iadd, 1) := by decide +kernel
theorem dX9_dueAt_36 : decode cX9_dueAt 36 = .ok (.istore_n 2, 1) := by decide +kernel
theorem dX9_dueAt_37 : decode cX9_dueAt 37 = .ok (.iinc 3 1, 3) := by decide +kernel
theorem dX9_dueAt_40 : decode cX9_dueAt 40 = .ok (.goto (-36), 3) := by decide +kernel
theorem dX9_dueAt_43 : decode cX9_dueAt 43 = .ok (.iload_n 2, 1) := by decide +kernel
theorem dX9_dueAt_44 : decode cX9_dueAt 44 = .ok (.ireturn, 1) := by decide +kernel
theorem dX9_due_0 : decode cX9_due 0 = .ok (.aload_n 0, 1) := by decide +kernel
theorem dX9_due_1 : decode cX9_due 1 = .ok (.iconst 0, 1) := by decide +kernel
theorem dX9_due_2 : decode cX9_due 2 = .ok (.putfield 81, 3) := by decide +kernel
theorem dX9_due_5 : decode cX9_due 5 = .ok (.aload_n 0, 1) := by decide +kernel
theorem dX9_due_6 : decode cX9_due 6 = .ok (.iload_n 1, 1) := by decide +kernel
theorem dX9_due_7 : decode cX9_due 7 = .ok (.invokevirtual 111, 3) := by decide +kernel
theorem dX9_due_10 : decode cX9_due 10 = .ok (.ifCond .eq 13, 3) := by decide +kernel
theorem dX9_due_13 : decode cX9_due 13 = .ok (.aload_n 0, 1) := by decide +kernel
theorem dX9_due_14 : decode cX9_due 14 = .ok (.iconst 1, 1) := by decide +kernel
theorem dX9_due_15 : decode cX9_due 15 = .ok (.iload_n 1, 1) := by decide +kernel
theorem dX9_due_16 : decode cX9_due 16 = .ok (.ishl, 1) := by decide +kernel
theorem dX9_due_17 : decode cX9_due 17 = .ok (.invokevirtual 133, 3) := by decide +kernel
theorem dX9_due_20 : decode cX9_due 20 = .ok (.goto 8, 3) := by decide +kernel
theorem dX9_due_23 : decode cX9_due 23 = .ok (.aload_n 0, 1) := by decide +kernel
theorem dX9_due_24 : decode cX9_due 24 = .ok (.iconst 1, 1) := by decide +kernel
theorem dX9_due_25 : decode cX9_due 25 = .ok (.invokevirtual 100, 3) := by decide +kernel
theorem dX9_due_28 : decode cX9_due 28 = .ok (.ireturn, 1) := by decide +kernel
theorem dX9_measures_0 : decode cX9_measures 0 = .ok (.iconst 0, 1) := by decide +kernel
theorem dX9_measures_1 : decode cX9_measures 1 = .ok (.istore_n 1, 1) := by decide +kernel
theorem dX9_measures_2 : decode cX9_measures 2 = .ok (.iload_n 1, 1) := by decide +kernel
theorem dX9_measures_3 : decode cX9_measures 3 = .ok (.bipush 10, 2) := by decide +kernel
theorem dX9_measures_5 : decode cX9_measures 5 = .ok (.if_icmp .ge 45, 3) := by decide +kernel
theorem dX9_measures_8 : decode cX9_measures 8 = .ok (.iconst 0, 1) := by decide +kernel
theorem dX9_measures_9 : decode cX9_measures 9 = .ok (.istore_n 2, 1) := by decide +kernel
theorem dX9_measures_10 : decode cX9_measures 10 = .ok (.iload_n 2, 1) := by decide +kernel
theorem dX9_measures_11 : decode cX9_measures 11 = .ok (.bipush 10, 2) := by decide +kernel
theorem dX9_measures_13 : decode cX9_measures 13 = .ok (.if_icmp .ge 31, 3) := by decide +kernel
theorem dX9_measures_16 : decode cX9_measures 16 = .ok (.aload_n 0, 1) := by decide +kernel
theorem dX9_measures_17 : decode cX9_measures 17 = .ok (.getfield 60, 3) := by decide +kernel
theorem dX9_measures_20 : decode cX9_measures 20 = .ok (.bipush 10, 2) := by decide +kernel
theorem dX9_measures_22 : decode cX9_measures 22 = .ok (.iload_n 1, 1) := by decide +kernel
theorem dX9_measures_23 : decode cX9_measures 23 = .ok (.imul, 1) := by decide +kernel
theorem dX9_measures_24 : decode cX9_measures 24 = .ok (.iload_n 2, 1) := by decide +kernel
theorem dX9_measures_25 : decode cX9_measures 25 = .ok (.iadd, 1) := by decide +kernel
theorem dX9_measures_26 : decode cX9_measures 26 = .ok (.iload_n 1, 1) := by decide +kernel
theorem dX9_measures_27 : decode cX9_measures 27 = .ok (.iload_n 2, 1) := by decide +kernel
theorem dX9_measures_28 : decode cX9_measures 28 = .ok (.if_icmp .ne 7, 3) := by decide +kernel
theorem dX9_measures_31 : decode cX9_measures 31 = .ok (.iconst 0, 1) := by decide +kernel
theorem dX9_measures_32 : decode cX9_measures 32 = .ok (.goto 5, 3) := by decide +kernel
theorem dX9_measures_35 : decode cX9_measures 35 = .ok (.ldc 136, 2) := by decide +kernel
theorem dX9_measures_37 : decode cX9_measures 37 = .ok (.iastore, 1) := by decide +kernel
theorem dX9_measures_38 : decode cX9_measures 38 = .ok (.iinc 2 1, 3) := by decide +kernel
theorem dX9_measures_41 : decode cX9_measures 41 = .ok (.goto (-31), 3) := by decide +kernel
theorem dX9_measures_44 : decode cX9_measures 44 = .ok (.iinc 1 1, 3) := by decide +kernel
theorem dX9_measures_47 : decode cX9_measures 47 = .ok (.goto (-45), 3) := by decide +kernel
theorem dX9_measures_50 : decode cX9_measures 50 = .ok (.iconst 0, 1) := by decide +kernel
theorem dX9_measures_51 : decode cX9_measures 51 = .ok (.istore_n 1, 1) := by decide +kernel
theorem dX9_measures_52 : decode cX9_measures 52 = .ok (.iload_n 1, 1) := by decide +kernel
theorem dX9_measures_53 : decode cX9_measures 53 = .ok (.aload_n 0, 1) := by decide +kernel
theorem dX9_measures_54 : decode cX9_measures 54 = .ok (.getfield 84, 3) := by decide +kernel
theorem dX9_measures_57 : decode cX9_measures 57 = .ok (.if_icmp .ge 76, 3) := by decide +kernel
theorem dX9_measures_60 : decode cX9_measures 60 = .ok (.bipush 10, 2) := by decide +kernel
theorem dX9_measures_62 : decode cX9_measures 62 = .ok (.aload_n 0, 1) := by decide +kernel
theorem dX9_measures_63 : decode cX9_measures 63 = .ok (.getfield 9, 3) := by decide +kernel
theorem dX9_measures_66 : decode cX9_measures 66 = .ok (.iload_n 1, 1) := by decide +kernel
theorem dX9_measures_67 : decode cX9_measures 67 = .ok (.iaload, 1) := by decide +kernel
theorem dX9_measures_68 : decode cX9_measures 68 = .ok (.imul, 1) := by decide +kernel
theorem dX9_measures_69 : decode cX9_measures 69 = .ok (.aload_n 0, 1) := by decide +kernel
theorem dX9_measures_70 : decode cX9_measures 70 = .ok (.getfield 13, 3) := by decide +kernel
theorem dX9_measures_73 : decode cX9_measures 73 = .ok (.iload_n 1, 1) := by decide +kernel
theorem dX9_measures_74 : decode cX9_measures 74 = .ok (.iaload, 1) := by decide +kernel
theorem dX9_measures_75 : decode cX9_measures 75 = .ok (.iadd, 1) := by decide +kernel
theorem dX9_measures_76 : decode cX9_measures 76 = .ok (.istore_n 2, 1) := by decide +kernel
theorem dX9_measures_77 : decode cX9_measures 77 = .ok (.bipush 10, 2) := by decide +kernel
theorem dX9_measures_79 : decode cX9_measures 79 = .ok (.aload_n 0, 1) := by decide +kernel
theorem dX9_measures_80 : decode cX9_measures 80 = .ok (.getfield 13, 3) := by decide +kernel
theorem dX9_measures_83 : decode cX9_measures 83 = .ok (.iload_n 1, 1) := by decide +kernel
theorem dX9_measures_84 : decode cX9_measures 84 = .ok (.iaload, 1) := by decide +kernel
theorem dX9_measures_85 : decode cX9_measures 85 = .ok (.imul, 1) := by decide +kernel
theorem dX9_measures_86 : decode cX9_measures 86 = .ok (.aload_n 0, 1) := by decide +kernel
theorem dX9_measures_87 : decode cX9_measures 87 = .ok (.getfield 9, 3) := by decide +kernel
theorem dX9_measures_90 : decode cX9_measures 90 = .ok (.iload_n 1, 1) := by decide +kernel
theorem dX9_measures_91 : decode cX9_measures 91 = .ok (.iaload, 1) := by decide +kernel
theorem dX9_measures_92 : decode cX9_measures 92 = .ok (.iadd, 1) := by decide +kernel
theorem dX9_measures_93 : decode cX9_measures 93 = .ok (.istore_n 3, 1) := by decide +kernel
theorem dX9_measures_94 : decode cX9_measures 94 = .ok (.aload_n 0, 1) := by decide +kernel
theorem dX9_measures_95 : decode cX9_measures 95 = .ok (.getfield 60, 3) := by decide +kernel
theorem dX9_measures_98 : decode cX9_measures 98 = .ok (.iload_n 2, 1) := by decide +kernel
theorem dX9_measures_99 : decode cX9_measures 99 = .ok (.aload_n 0, 1) := by decide +kernel
theorem dX9_measures_100 : decode cX9_measures 100 = .ok (.getfield 60, 3) := by decide +kernel
theorem dX9_measures_103 : decode cX9_measures 103 = .ok (.iload_n 2, 1) := by decide +kernel
theorem dX9_measures_104 : decode cX9_measures 104 = .ok (.iaload, 1) := by decide +kernel
theorem dX9_measures_105 : decode cX9_measures 105 = .ok (.aload_n 0, 1) := by decide +kernel
theorem dX9_measures_106 : decode cX9_measures 106 = .ok (.getfield 16, 3) := by decide +kernel
theorem dX9_measures_109 : decode cX9_measures 109 = .ok (.iload_n 1, 1) := by decide +kernel
theorem dX9_measures_110 : decode cX9_measures 110 = .ok (.iaload, 1) := by decide +kernel
theorem dX9_measures_111 : decode cX9_measures 111 = .ok (.invokestatic 137, 3) := by decide +kernel
theorem dX9_measures_114 : decode cX9_measures 114 = .ok (.iastore, 1) := by decide +kernel
theorem dX9_measures_115 : decode cX9_measures 115 = .ok (.aload_n 0, 1) := by decide +kernel
theorem dX9_measures_116 : decode cX9_measures 116 = .ok (.getfield 60, 3) := by decide +kernel
theorem dX9_measures_119 : decode cX9_measures 119 = .ok (.iload_n 3, 1) := by decide +kernel
theorem dX9_measures_120 : decode cX9_measures 120 = .ok (.aload_n 0, 1) := by decide +kernel
theorem dX9_measures_121 : decode cX9_measures 121 = .ok (.getfield 60, 3) := by decide +kernel
theorem dX9_measures_124 : decode cX9_measures 124 = .ok (.iload_n 2, 1) := by decide +kernel
theorem dX9_measures_125 : decode cX9_measures 125 = .ok (.iaload, 1) := by decide +kernel
theorem dX9_measures_126 : decode cX9_measures 126 = .ok (.iastore, 1) := by decide +kernel
theorem dX9_measures_127 : decode cX9_measures 127 = .ok (.iinc 1 1, 3) := by decide +kernel
theorem dX9_measures_130 : decode cX9_measures 130 = .ok (.goto (-78), 3) := by decide +kernel
theorem dX9_measures_133 : decode cX9_measures 133 = .ok (.iconst 0, 1) := by decide +kernel
theorem dX9_measures_134 : decode cX9_measures 134 = .ok (.istore_n 1, 1) := by decide +kernel
theorem dX9_measures_135 : decode cX9_measures 135 = .ok (.iload_n 1, 1) := by decide +kernel
theorem dX9_measures_136 : decode cX9_measures 136 = .ok (.aload_n 0, 1) := by decide +kernel
theorem dX9_measures_137 : decode cX9_measures 137 = .ok (.getfield 53, 3) := by decide +kernel
theorem dX9_measures_140 : decode cX9_measures 140 = .ok (.if_icmp .ge 89, 3) := by decide +kernel
theorem dX9_measures_143 : decode cX9_measures 143 = .ok (.iconst 0, 1) := by decide +kernel
theorem dX9_measures_144 : decode cX9_measures 144 = .ok (.istore_n 2, 1) := by decide +kernel
theorem dX9_measures_145 : decode cX9_measures 145 = .ok (.iload_n 2, 1) := by decide +kernel
theorem dX9_measures_146 : decode cX9_measures 146 = .ok (.aload_n 0, 1) := by decide +kernel
theorem dX9_measures_147 : decode cX9_measures 147 = .ok (.getfield 53, 3) := by decide +kernel
theorem dX9_measures_150 : decode cX9_measures 150 = .ok (.if_icmp .ge 73, 3) := by decide +kernel
theorem dX9_measures_153 : decode cX9_measures 153 = .ok (.iconst 0, 1) := by decide +kernel
theorem dX9_measures_154 : decode cX9_measures 154 = .ok (.istore_n 3, 1) := by decide +kernel
theorem dX9_measures_155 : decode cX9_measures 155 = .ok (.iload_n 3, 1) := by decide +kernel
theorem dX9_measures_156 : decode cX9_measures 156 = .ok (.aload_n 0, 1) := by decide +kernel
theorem dX9_measures_157 : decode cX9_measures 157 = .ok (.getfield 53, 3) := by decide +kernel
theorem dX9_measures_160 : decode cX9_measures 160 = .ok (.if_icmp .ge 57, 3) := by decide +kernel
theorem dX9_measures_163 : decode cX9_measures 163 = .ok (.aload_n 0, 1) := by decide +kernel
theorem dX9_measures_164 : decode cX9_measures 164 = .ok (.getfield 60, 3) := by decide +kernel
theorem dX9_measures_167 : decode cX9_measures 167 = .ok (.bipush 10, 2) := by decide +kernel
theorem dX9_measures_169 : decode cX9_measures 169 = .ok (.iload_n 2, 1) := by decide +kernel
theorem dX9_measures_170 : decode cX9_measures 170 = .ok (.imul, 1) := by decide +kernel
theorem dX9_measures_171 : decode cX9_measures 171 = .ok (.iload_n 3, 1) := by decide +kernel
theorem dX9_measures_172 : decode cX9_measures 172 = .ok (.iadd, 1) := by decide +kernel
theorem dX9_measures_173 : decode cX9_measures 173 = .ok (.aload_n 0, 1) := by decide +kernel
theorem dX9_measures_174 : decode cX9_measures 174 = .ok (.getfield 60, 3) := by decide +kernel
theorem dX9_measures_177 : decode cX9_measures 177 = .ok (.bipush 10, 2) := by decide +kernel
theorem dX9_measures_179 : decode cX9_measures 179 = .ok (.iload_n 2, 1) := by decide +kernel
theorem dX9_measures_180 : decode cX9_measures 180 = .ok (.imul, 1) := by decide +kernel
theorem dX9_measures_181 : decode cX9_measures 181 = .ok (.iload_n 3, 1) := by decide +kernel
theorem dX9_measures_182 : decode cX9_measures 182 = .ok (.iadd, 1) := by decide +kernel
theorem dX9_measures_183 : decode cX9_measures 183 = .ok (.iaload, 1) := by decide +kernel
theorem dX9_measures_184 : decode cX9_measures 184 = .ok (.aload_n 0, 1) := by decide +kernel
theorem dX9_measures_185 : decode cX9_measures 185 = .ok (.getfield 60, 3) := by decide +kernel
theorem dX9_measures_188 : decode cX9_measures 188 = .ok (.bipush 10, 2) := by decide +kernel
theorem dX9_measures_190 : decode cX9_measures 190 = .ok (.iload_n 2, 1) := by decide +kernel
theorem dX9_measures_191 : decode cX9_measures 191 = .ok (.imul, 1) := by decide +kernel
theorem dX9_measures_192 : decode cX9_measures 192 = .ok (.iload_n 1, 1) := by decide +kernel
theorem dX9_measures_193 : decode cX9_measures 193 = .ok (.iadd, 1) := by decide +kernel
theorem dX9_measures_194 : decode cX9_measures 194 = .ok (.iaload, 1) := by decide +kernel
theorem dX9_measures_195 : decode cX9_measures 195 = .ok (.aload_n 0, 1) := by decide +kernel
theorem dX9_measures_196 : decode cX9_measures 196 = .ok (.getfield 60, 3) := by decide +kernel
theorem dX9_measures_199 : decode cX9_measures 199 = .ok (.bipush 10, 2) := by decide +kernel
theorem dX9_measures_201 : decode cX9_measures 201 = .ok (.iload_n 1, 1) := by decide +kernel
theorem dX9_measures_202 : decode cX9_measures 202 = .ok (.imul, 1) := by decide +kernel
theorem dX9_measures_203 : decode cX9_measures 203 = .ok (.iload_n 3, 1) := by decide +kernel
theorem dX9_measures_204 : decode cX9_measures 204 = .ok (.iadd, 1) := by decide +kernel
theorem dX9_measures_205 : decode cX9_measures 205 = .ok (.iaload, 1) := by decide +kernel
theorem dX9_measures_206 : decode cX9_measures 206 = .ok (.iadd, 1) := by decide +kernel
theorem dX9_measures_207 : decode cX9_measures 207 = .ok (.invokestatic 137, 3) := by decide +kernel
theorem dX9_measures_210 : decode cX9_measures 210 = .ok (.iastore, 1) := by decide +kernel
theorem dX9_measures_211 : decode cX9_measures 211 = .ok (.iinc 3 1, 3) := by decide +kernel
theorem dX9_measures_214 : decode cX9_measures 214 = .ok (.goto (-59), 3) := by decide +kernel
theorem dX9_measures_217 : decode cX9_measures 217 = .ok (.iinc 2 1, 3) := by decide +kernel
theorem dX9_measures_220 : decode cX9_measures 220 = .ok (.goto (-75), 3) := by decide +kernel
theorem dX9_measures_223 : decode cX9_measures 223 = .ok (.iinc 1 1, 3) := by decide +kernel
theorem dX9_measures_226 : decode cX9_measures 226 = .ok (.goto (-91), 3) := by decide +kernel
theorem dX9_measures_229 : decode cX9_measures 229 = .ok (.return_, 1) := by decide +kernel
theorem dX9_distance_0 : decode cX9_distance 0 = .ok (.aload_n 0, 1) := by decide +kernel
theorem dX9_distance_1 : decode cX9_distance 1 = .ok (.iconst 0, 1) := by decide +kernel
theorem dX9_distance_2 : decode cX9_distance 2 = .ok (.putfield 81, 3) := by decide +kernel
theorem dX9_distance_5 : decode cX9_distance 5 = .ok (.aload_n 0, 1) := by decide +kernel
theorem dX9_distance_6 : decode cX9_distance 6 = .ok (.iload_n 1, 1) := by decide +kernel
theorem dX9_distance_7 : decode cX9_distance 7 = .ok (.invokevirtual 104, 3) := by decide +kernel
theorem dX9_distance_10 : decode cX9_distance 10 = .ok (.ifCond .eq 11, 3) := by decide +kernel
theorem dX9_distance_13 : decode cX9_distance 13 = .ok (.aload_n 0, 1) := by decide +kernel
theorem dX9_distance_14 : decode cX9_distance 14 = .ok (.iload_n 2, 1) := by decide +kernel
theorem dX9_distance_15 : decode cX9_distance 15 = .ok (.invokevirtual 104, 3) := by decide +kernel
theorem dX9_distance_18 : decode cX9_distance 18 = .ok (.ifCond .ne 9, 3) := by decide +kernel
theorem dX9_distance_21 : decode cX9_distance 21 = .ok (.aload_n 0, 1) := by decide +kernel
theorem dX9_distance_22 : decode cX9_distance 22 = .ok (.iconst 1, 1) := by decide +kernel
theorem dX9_distance_23 : decode cX9_distance 23 = .ok (.invokevirtual 100, 3) := by decide +kernel
theorem dX9_distance_26 : decode cX9_distance 26 = .ok (.ireturn, 1) := by decide +kernel
theorem dX9_distance_27 : decode cX9_distance 27 = .ok (.aload_n 0, 1) := by decide +kernel
theorem dX9_distance_28 : decode cX9_distance 28 = .ok (.invokevirtual 143, 3) := by decide +kernel
theorem dX9_distance_31 : decode cX9_distance 31 = .ok (.aload_n 0, 1) := by decide +kernel
theorem dX9_distance_32 : decode cX9_distance 32 = .ok (.getfield 60, 3) := by decide +kernel
theorem dX9_distance_35 : decode cX9_distance 35 = .ok (.bipush 10, 2) := by decide +kernel
theorem dX9_distance_37 : decode cX9_distance 37 = .ok (.iload_n 1, 1) := by decide +kernel
theorem dX9_distance_38 : decode cX9_distance 38 = .ok (.imul, 1) := by decide +kernel
theorem dX9_distance_39 : decode cX9_distance 39 = .ok (.iload_n 2, 1) := by decide +kernel
theorem dX9_distance_40 : decode cX9_distance 40 = .ok (.iadd, 1) := by decide +kernel
theorem dX9_distance_41 : decode cX9_distance 41 = .ok (.iaload, 1) := by decide +kernel
theorem dX9_distance_42 : decode cX9_distance 42 = .ok (.ldc 136, 2) := by decide +kernel
theorem dX9_distance_44 : decode cX9_distance 44 = .ok (.if_icmp .ge 17, 3) := by decide +kernel
theorem dX9_distance_47 : decode cX9_distance 47 = .ok (.aload_n 0, 1) := by decide +kernel
theorem dX9_distance_48 : decode cX9_distance 48 = .ok (.getfield 60, 3) := by decide +kernel
theorem dX9_distance_51 : decode cX9_distance 51 = .ok (.bipush 10, 2) := by decide +kernel
theorem dX9_distance_53 : decode cX9_distance 53 = .ok (.iload_n 1, 1) := by decide +kernel
theorem dX9_distance_54 : decode cX9_distance 54 = .ok (.imul, 1) := by decide +kernel
theorem dX9_distance_55 : decode cX9_distance 55 = .ok (.iload_n 2, 1) := by decide +kernel
theorem dX9_distance_56 : decode cX9_distance 56 = .ok (.iadd, 1) := by decide +kernel
theorem dX9_distance_57 : decode cX9_distance 57 = .ok (.iaload, 1) := by decide +kernel
theorem dX9_distance_58 : decode cX9_distance 58 = .ok (.goto 4, 3) := by decide +kernel
theorem dX9_distance_61 : decode cX9_distance 61 = .ok (.iconst (-1), 1) := by decide +kernel
theorem dX9_distance_62 : decode cX9_distance 62 = .ok (.ireturn, 1) := by decide +kernel
theorem dX9_distanceByRounds_0 : decode cX9_distanceByRounds 0 = .ok (.aload_n 0, 1) := by decide +kernel
theorem dX9_distanceByRounds_1 : decode cX9_distanceByRounds 1 = .ok (.iload_n 1, 1) := by decide +kernel
theorem dX9_distanceByRounds_2 : decode cX9_distanceByRounds 2 = .ok (.iload_n 2, 1) := by decide +kernel
theorem dX9_distanceByRounds_3 : decode cX9_distanceByRounds 3 = .ok (.invokevirtual 146, 3) := by decide +kernel
theorem dX9_distanceByRounds_6 : decode cX9_distanceByRounds 6 = .ok (.ireturn, 1) := by decide +kernel
theorem dX9_isSideDue_0 : decode cX9_isSideDue 0 = .ok (.iconst 0, 1) := by decide +kernel
theorem dX9_isSideDue_1 : decode cX9_isSideDue 1 = .ok (.istore_n 3, 1) := by decide +kernel
theorem dX9_isSideDue_2 : decode cX9_isSideDue 2 = .ok (.iload_n 3, 1) := by decide +kernel
theorem dX9_isSideDue_3 : decode cX9_isSideDue 3 = .ok (.aload_n 0, 1) := by decide +kernel
theorem dX9_isSideDue_4 : decode cX9_isSideDue 4 = .ok (.getfield 91, 3) := by decide +kernel
theorem dX9_isSideDue_7 : decode cX9_isSideDue 7 = .ok (.if_icmp .ge 39, 3) := by decide +kernel
theorem dX9_isSideDue_10 : decode cX9_isSideDue 10 = .ok (.aload_n 0, 1) := by decide +kernel
theorem dX9_isSideDue_11 : decode cX9_isSideDue 11 = .ok (.getfield 22, 3) := by decide +kernel
theorem dX9_isSideDue_14 : decode cX9_isSideDue 14 = .ok (.iload_n 3, 1) := by decide +kernel
theorem dX9_isSideDue_15 : decode cX9_isSideDue 15 = .ok (.iaload, 1) := by decide +kernel
theorem dX9_isSideDue_16 : decode cX9_isSideDue 16 = .ok (.iload_n 1, 1) := by decide +kernel
theorem dX9_isSideDue_17 : decode cX9_isSideDue 17 = .ok (.if_icmp .ne 23, 3) := by decide +kernel
theorem dX9_isSideDue_20 : decode cX9_isSideDue 20 = .ok (.aload_n 0, 1) := by decide +kernel
theorem dX9_isSideDue_21 : decode cX9_isSideDue 21 = .ok (.getfield 25, 3) := by decide +kernel
theorem dX9_isSideDue_24 : decode cX9_isSideDue 24 = .ok (.iload_n 3, 1) := by decide +kernel
theorem dX9_isSideDue_25 : decode cX9_isSideDue 25 = .ok (.iaload, 1) := by decide +kernel
theorem dX9_isSideDue_26 : decode cX9_isSideDue 26 = .ok (.iload_n 2, 1) := by decide +kernel
theorem dX9_isSideDue_27 : decode cX9_isSideDue 27 = .ok (.if_icmp .ne 13, 3) := by decide +kernel
theorem dX9_isSideDue_30 : decode cX9_isSideDue 30 = .ok (.aload_n 0, 1) := by decide +kernel
theorem dX9_isSideDue_31 : decode cX9_isSideDue 31 = .ok (.iload_n 3, 1) := by decide +kernel
theorem dX9_isSideDue_32 : decode cX9_isSideDue 32 = .ok (.invokevirtual 123, 3) := by decide +kernel
theorem dX9_isSideDue_35 : decode cX9_isSideDue 35 = .ok (.ifCond .eq 5, 3) := by decide +kernel
theorem dX9_isSideDue_38 : decode cX9_isSideDue 38 = .ok (.iconst 1, 1) := by decide +kernel
theorem dX9_isSideDue_39 : decode cX9_isSideDue 39 = .ok (.ireturn, 1) := by decide +kernel
theorem dX9_isSideDue_40 : decode cX9_isSideDue 40 = .ok (.iinc 3 1, 3) := by decide +kernel
theorem dX9_isSideDue_43 : decode cX9_isSideDue 43 = .ok (.goto (-41), 3) := by decide +kernel
theorem dX9_isSideDue_46 : decode cX9_isSideDue 46 = .ok (.iconst 0, 1) := by decide +kernel
theorem dX9_isSideDue_47 : decode cX9_isSideDue 47 = .ok (.ireturn, 1) := by decide +kernel
theorem dX9_needs_0 : decode cX9_needs 0 = .ok (.aload_n 0, 1) := by decide +kernel
theorem dX9_needs_1 : decode cX9_needs 1 = .ok (.getfield 63, 3) := by decide +kernel
theorem dX9_needs_4 : decode cX9_needs 4 = .ok (.aload_n 0, 1) := by decide +kernel
theorem dX9_needs_5 : decode cX9_needs 5 = .ok (.getfield 149, 3) := by decide +kernel
theorem dX9_needs_8 : decode cX9_needs 8 = .ok (.iload_n 1, 1) := by decide +kernel
theorem dX9_needs_9 : decode cX9_needs 9 = .ok (.iastore, 1) := by decide +kernel
theorem dX9_needs_10 : decode cX9_needs 10 = .ok (.aload_n 0, 1) := by decide +kernel
theorem dX9_needs_11 : decode cX9_needs 11 = .ok (.dup, 1) := by decide +kernel
theorem dX9_needs_12 : decode cX9_needs 12 = .ok (.getfield 149, 3) := by decide +kernel
theorem dX9_needs_15 : decode cX9_needs 15 = .ok (.iconst 1, 1) := by decide +kernel
theorem dX9_needs_16 : decode cX9_needs 16 = .ok (.iadd, 1) := by decide +kernel
theorem dX9_needs_17 : decode cX9_needs 17 = .ok (.putfield 149, 3) := by decide +kernel
theorem dX9_needs_20 : decode cX9_needs 20 = .ok (.return_, 1) := by decide +kernel
theorem dX9_findsNeeds_0 : decode cX9_findsNeeds 0 = .ok (.aload_n 0, 1) := by decide +kernel
theorem dX9_findsNeeds_1 : decode cX9_findsNeeds 1 = .ok (.iconst 0, 1) := by decide +kernel
theorem dX9_findsNeeds_2 : decode cX9_findsNeeds 2 = .ok (.putfield 149, 3) := by decide +kernel
theorem dX9_findsNeeds_5 : decode cX9_findsNeeds 5 = .ok (.iconst 0, 1) := by decide +kernel
theorem dX9_findsNeeds_6 : decode cX9_findsNeeds 6 = .ok (.istore_n 2, 1) := by decide +kernel
theorem dX9_findsNeeds_7 : decode cX9_findsNeeds 7 = .ok (.iload_n 2, 1) := by decide +kernel
theorem dX9_findsNeeds_8 : decode cX9_findsNeeds 8 = .ok (.aload_n 0, 1) := by decide +kernel
theorem dX9_findsNeeds_9 : decode cX9_findsNeeds 9 = .ok (.getfield 84, 3) := by decide +kernel
theorem dX9_findsNeeds_12 : decode cX9_findsNeeds 12 = .ok (.if_icmp .ge 102, 3) := by decide +kernel
theorem dX9_findsNeeds_15 : decode cX9_findsNeeds 15 = .ok (.aload_n 0, 1) := by decide +kernel
theorem dX9_findsNeeds_16 : decode cX9_findsNeeds 16 = .ok (.getfield 19, 3) := by decide +kernel
theorem dX9_findsNeeds_19 : decode cX9_findsNeeds 19 = .ok (.iload_n 2, 1) := by decide +kernel
theorem dX9_findsNeeds_20 : decode cX9_findsNeeds 20 = .ok (.iaload, 1) := by decide +kernel
theorem dX9_findsNeeds_21 : decode cX9_findsNeeds 21 = .ok (.ifCond .lt 87, 3) := by decide +kernel
theorem dX9_findsNeeds_24 : decode cX9_findsNeeds 24 = .ok (.iload_n 1, 1) := by decide +kernel
theorem dX9_findsNeeds_25 : decode cX9_findsNeeds 25 = .ok (.aload_n 0, 1) := by decide +kernel
theorem dX9_findsNeeds_26 : decode cX9_findsNeeds 26 = .ok (.getfield 19, 3) := by decide +kernel
theorem dX9_findsNeeds_29 : decode cX9_findsNeeds 29 = .ok (.iload_n 2, 1) := by decide +kernel
theorem dX9_findsNeeds_30 : decode cX9_findsNeeds 30 = .ok (.iaload, 1) := by decide +kernel
theorem dX9_findsNeeds_31 : decode cX9_findsNeeds 31 = .ok (.ishr, 1) := by decide +kernel
theorem dX9_findsNeeds_32 : decode cX9_findsNeeds 32 = .ok (.iconst 1, 1) := by decide +kernel
theorem dX9_findsNeeds_33 : decode cX9_findsNeeds 33 = .ok (.iand, 1) := by decide +kernel
theorem dX9_findsNeeds_34 : decode cX9_findsNeeds 34 = .ok (.ifCond .ne 6, 3) := by decide +kernel
theorem dX9_findsNeeds_37 : decode cX9_findsNeeds 37 = .ok (.goto 71, 3) := by decide +kernel
theorem dX9_findsNeeds_40 : decode cX9_findsNeeds 40 = .ok (.aload_n 0, 1) := by decide +kernel
theorem dX9_findsNeeds_41 : decode cX9_findsNeeds 41 = .ok (.iload_n 2, 1) := by decide +kernel
theorem dX9_findsNeeds_42 : decode cX9_findsNeeds 42 = .ok (.iconst 0, 1) := by decide +kernel
theorem dX9_findsNeeds_43 : decode cX9_findsNeeds 43 = .ok (.invokevirtual 152, 3) := by decide +kernel
theorem dX9_findsNeeds_46 : decode cX9_findsNeeds 46 = .ok (.istore_n 3, 1) := by decide +kernel
theorem dX9_findsNeeds_47 : decode cX9_findsNeeds 47 = .ok (.aload_n 0, 1) := by decide +kernel
theorem dX9_findsNeeds_48 : decode cX9_findsNeeds 48 = .ok (.iload_n 2, 1) := by decide +kernel
theorem dX9_findsNeeds_49 : decode cX9_findsNeeds 49 = .ok (.iconst 1, 1) := by decide +kernel
theorem dX9_findsNeeds_50 : decode cX9_findsNeeds 50 = .ok (.invokevirtual 152, 3) := by decide +kernel
theorem dX9_findsNeeds_53 : decode cX9_findsNeeds 53 = .ok (.istore 4, 2) := by decide +kernel
theorem dX9_findsNeeds_55 : decode cX9_findsNeeds 55 = .ok (.aload_n 0, 1) := by decide +kernel
theorem dX9_findsNeeds_56 : decode cX9_findsNeeds 56 = .ok (.getfield 46, 3) := by decide +kernel
theorem dX9_findsNeeds_59 : decode cX9_findsNeeds 59 = .ok (.iload_n 2, 1) := by decide +kernel
theorem dX9_findsNeeds_60 : decode cX9_findsNeeds 60 = .ok (.baload, 1) := by decide +kernel
theorem dX9_findsNeeds_61 : decode cX9_findsNeeds 61 = .ok (.ifCond .eq 31, 3) := by decide +kernel
theorem dX9_findsNeeds_64 : decode cX9_findsNeeds 64 = .ok (.iload_n 3, 1) := by decide +kernel
theorem dX9_findsNeeds_65 : decode cX9_findsNeeds 65 = .ok (.ifCond .eq 10, 3) := by decide +kernel
theorem dX9_findsNeeds_68 : decode cX9_findsNeeds 68 = .ok (.aload_n 0, 1) := by decide +kernel
theorem dX9_findsNeeds_69 : decode cX9_findsNeeds 69 = .ok (.iconst 2, 1) := by decide +kernel
theorem dX9_findsNeeds_70 : decode cX9_findsNeeds 70 = .ok (.iload_n 2, 1) := by decide +kernel
theorem dX9_findsNeeds_71 : decode cX9_findsNeeds 71 = .ok (.imul, 1) := by decide +kernel
theorem dX9_findsNeeds_72 : decode cX9_findsNeeds 72 = .ok (.invokevirtual 155, 3) := by decide +kernel
theorem dX9_findsNeeds_75 : decode cX9_findsNeeds 75 = .ok (.iload 4, 2) := by decide +kernel
theorem dX9_findsNeeds_77 : decode cX9_findsNeeds 77 = .ok (.ifCond .eq 31, 3) := by decide +kernel
theorem dX9_findsNeeds_80 : decode cX9_findsNeeds 80 = .ok (.aload_n 0, 1) := by decide +kernel
theorem dX9_findsNeeds_81 : decode cX9_findsNeeds 81 = .ok (.iconst 2, 1) := by decide +kernel
theorem dX9_findsNeeds_82 : decode cX9_findsNeeds 82 = .ok (.iload_n 2, 1) := by decide +kernel
theorem dX9_findsNeeds_83 : decode cX9_findsNeeds 83 = .ok (.imul, 1) := by decide +kernel
theorem dX9_findsNeeds_84 : decode cX9_findsNeeds 84 = .ok (.iconst 1, 1) := by decide +kernel
theorem dX9_findsNeeds_85 : decode cX9_findsNeeds 85 = .ok (.iadd, 1) := by decide +kernel
theorem dX9_findsNeeds_86 : decode cX9_findsNeeds 86 = .ok (.invokevirtual 155, 3) := by decide +kernel
theorem dX9_findsNeeds_89 : decode cX9_findsNeeds 89 = .ok (.goto 19, 3) := by decide +kernel
theorem dX9_findsNeeds_92 : decode cX9_findsNeeds 92 = .ok (.iload_n 3, 1) := by decide +kernel
theorem dX9_findsNeeds_93 : decode cX9_findsNeeds 93 = .ok (.ifCond .ne 8, 3) := by decide +kernel
theorem dX9_findsNeeds_96 : decode cX9_findsNeeds 96 = .ok (.iload 4, 2) := by decide +kernel
theorem dX9_findsNeeds_98 : decode cX9_findsNeeds 98 = .ok (.ifCond .eq 10, 3) := by decide +kernel
theorem dX9_findsNeeds_101 : decode cX9_findsNeeds 101 = .ok (.aload_n 0, 1) := by decide +kernel
theorem dX9_findsNeeds_102 : decode cX9_findsNeeds 102 = .ok (.iconst 2, 1) := by decide +kernel
theorem dX9_findsNeeds_103 : decode cX9_findsNeeds 103 = .ok (.iload_n 2, 1) := by decide +kernel
theorem dX9_findsNeeds_104 : decode cX9_findsNeeds 104 = .ok (.imul, 1) := by decide +kernel
theorem dX9_findsNeeds_105 : decode cX9_findsNeeds 105 = .ok (.invokevirtual 155, 3) := by decide +kernel
theorem dX9_findsNeeds_108 : decode cX9_findsNeeds 108 = .ok (.iinc 2 1, 3) := by decide +kernel
theorem dX9_findsNeeds_111 : decode cX9_findsNeeds 111 = .ok (.goto (-104), 3) := by decide +kernel
theorem dX9_findsNeeds_114 : decode cX9_findsNeeds 114 = .ok (.return_, 1) := by decide +kernel
theorem dX9_from_0 : decode cX9_from 0 = .ok (.iload_n 1, 1) := by decide +kernel
theorem dX9_from_1 : decode cX9_from 1 = .ok (.iconst 2, 1) := by decide +kernel
theorem dX9_from_2 : decode cX9_from 2 = .ok (.irem, 1) := by decide +kernel
theorem dX9_from_3 : decode cX9_from 3 = .ok (.ifCond .ne 14, 3) := by decide +kernel
theorem dX9_from_6 : decode cX9_from 6 = .ok (.aload_n 0, 1) := by decide +kernel
theorem dX9_from_7 : decode cX9_from 7 = .ok (.getfield 9, 3) := by decide +kernel
theorem dX9_from_10 : decode cX9_from 10 = .ok (.iload_n 1, 1) := by decide +kernel
theorem dX9_from_11 : decode cX9_from 11 = .ok (.iconst 2, 1) := by decide +kernel
theorem dX9_from_12 : decode cX9_from 12 = .ok (.idiv, 1) := by decide +kernel
theorem dX9_from_13 : decode cX9_from 13 = .ok (.iaload, 1) := by decide +kernel
theorem dX9_from_14 : decode cX9_from 14 = .ok (.goto 11, 3) := by decide +kernel
theorem dX9_from_17 : decode cX9_from 17 = .ok (.aload_n 0, 1) := by decide +kernel
theorem dX9_from_18 : decode cX9_from 18 = .ok (.getfield 13, 3) := by decide +kernel
theorem dX9_from_21 : decode cX9_from 21 = .ok (.iload_n 1, 1) := by decide +kernel
theorem dX9_from_22 : decode cX9_from 22 = .ok (.iconst 2, 1) := by decide +kernel
theorem dX9_from_23 : decode cX9_from 23 = .ok (.idiv, 1) := by decide +kernel
theorem dX9_from_24 : decode cX9_from 24 = .ok (.iaload, 1) := by decide +kernel
theorem dX9_from_25 : decode cX9_from 25 = .ok (.ireturn, 1) := by decide +kernel
theorem dX9_to_0 : decode cX9_to 0 = .ok (.iload_n 1, 1) := by decide +kernel
theorem dX9_to_1 : decode cX9_to 1 = .ok (.iconst 2, 1) := by decide +kernel
theorem dX9_to_2 : decode cX9_to 2 = .ok (.irem, 1) := by decide +kernel
theorem dX9_to_3 : decode cX9_to 3 = .ok (.ifCond .ne 14, 3) := by decide +kernel
theorem dX9_to_6 : decode cX9_to 6 = .ok (.aload_n 0, 1) := by decide +kernel
theorem dX9_to_7 : decode cX9_to 7 = .ok (.getfield 13, 3) := by decide +kernel
theorem dX9_to_10 : decode cX9_to 10 = .ok (.iload_n 1, 1) := by decide +kernel
theorem dX9_to_11 : decode cX9_to 11 = .ok (.iconst 2, 1) := by decide +kernel
theorem dX9_to_12 : decode cX9_to 12 = .ok (.idiv, 1) := by decide +kernel
theorem dX9_to_13 : decode cX9_to 13 = .ok (.iaload, 1) := by decide +kernel
theorem dX9_to_14 : decode cX9_to 14 = .ok (.goto 11, 3) := by decide +kernel
theorem dX9_to_17 : decode cX9_to 17 = .ok (.aload_n 0, 1) := by decide +kernel
theorem dX9_to_18 : decode cX9_to 18 = .ok (.getfield 9, 3) := by decide +kernel
theorem dX9_to_21 : decode cX9_to 21 = .ok (.iload_n 1, 1) := by decide +kernel
theorem dX9_to_22 : decode cX9_to 22 = .ok (.iconst 2, 1) := by decide +kernel
theorem dX9_to_23 : decode cX9_to 23 = .ok (.idiv, 1) := by decide +kernel
theorem dX9_to_24 : decode cX9_to 24 = .ok (.iaload, 1) := by decide +kernel
theorem dX9_to_25 : decode cX9_to 25 = .ok (.ireturn, 1) := by decide +kernel
theorem dX9_needed_0 : decode cX9_needed 0 = .ok (.aload_n 0, 1) := by decide +kernel
theorem dX9_needed_1 : decode cX9_needed 1 = .ok (.iconst 0, 1) := by decide +kernel
theorem dX9_needed_2 : decode cX9_needed 2 = .ok (.putfield 81, 3) := by decide +kernel
theorem dX9_needed_5 : decode cX9_needed 5 = .ok (.aload_n 0, 1) := by decide +kernel
theorem dX9_needed_6 : decode cX9_needed 6 = .ok (.iload_n 1, 1) := by decide +kernel
theorem dX9_needed_7 : decode cX9_needed 7 = .ok (.invokevirtual 111, 3) := by decide +kernel
theorem dX9_needed_10 : decode cX9_needed 10 = .ok (.ifCond .ne 9, 3) := by decide +kernel
theorem dX9_needed_13 : decode cX9_needed 13 = .ok (.aload_n 0, 1) := by decide +kernel
theorem dX9_needed_14 : decode cX9_needed 14 = .ok (.iconst 1, 1) := by decide +kernel
theorem dX9_needed_15 : decode cX9_needed 15 = .ok (.invokevirtual 100, 3) := by decide +kernel
theorem dX9_needed_18 : decode cX9_needed 18 = .ok (.ireturn, 1) := by decide +kernel
theorem dX9_needed_19 : decode cX9_needed 19 = .ok (.aload_n 0, 1) := by decide +kernel
theorem dX9_needed_20 : decode cX9_needed 20 = .ok (.iconst 1, 1) := by decide +kernel
theorem dX9_needed_21 : decode cX9_needed 21 = .ok (.iload_n 1, 1) := by decide +kernel
theorem dX9_needed_22 : decode cX9_needed 22 = .ok (.ishl, 1) := by decide +kernel
theorem dX9_needed_23 : decode cX9_needed 23 = .ok (.invokevirtual 159, 3) := by decide +kernel
theorem dX9_needed_26 : decode cX9_needed 26 = .ok (.aload_n 0, 1) := by decide +kernel
theorem dX9_needed_27 : decode cX9_needed 27 = .ok (.getfield 149, 3) := by decide +kernel
theorem dX9_needed_30 : decode cX9_needed 30 = .ok (.ireturn, 1) := by decide +kernel
theorem dX9_chooses_0 : decode cX9_chooses 0 = .ok (.aload_n 0, 1) := by decide +kernel
theorem dX9_chooses_1 : decode cX9_chooses 1 = .ok (.getfield 72, 3) := by decide +kernel
theorem dX9_chooses_4 : decode cX9_chooses 4 = .ok (.aload_n 0, 1) := by decide +kernel
theorem dX9_chooses_5 : decode cX9_chooses 5 = .ok (.getfield 162, 3) := by decide +kernel
theorem dX9_chooses_8 : decode cX9_chooses 8 = .ok (.iload_n 1, 1) := by decide +kernel
theorem dX9_chooses_9 : decode cX9_chooses 9 = .ok (.iastore, 1) := by decide +kernel
theorem dX9_chooses_10 : decode cX9_chooses 10 = .ok (.aload_n 0, 1) := by decide +kernel
theorem dX9_chooses_11 : decode cX9_chooses 11 = .ok (.getfield 75, 3) := by decide +kernel
theorem dX9_chooses_14 : decode cX9_chooses 14 = .ok (.aload_n 0, 1) := by decide +kernel
theorem dX9_chooses_15 : decode cX9_chooses 15 = .ok (.getfield 162, 3) := by decide +kernel
theorem dX9_chooses_18 : decode cX9_chooses 18 = .ok (.iload_n 2, 1) := by decide +kernel
theorem dX9_chooses_19 : decode cX9_chooses 19 = .ok (.iastore, 1) := by decide +kernel
theorem dX9_chooses_20 : decode cX9_chooses 20 = .ok (.aload_n 0, 1) := by decide +kernel
theorem dX9_chooses_21 : decode cX9_chooses 21 = .ok (.dup, 1) := by decide +kernel
theorem dX9_chooses_22 : decode cX9_chooses 22 = .ok (.getfield 162, 3) := by decide +kernel
theorem dX9_chooses_25 : decode cX9_chooses 25 = .ok (.iconst 1, 1) := by decide +kernel
theorem dX9_chooses_26 : decode cX9_chooses 26 = .ok (.iadd, 1) := by decide +kernel
theorem dX9_chooses_27 : decode cX9_chooses 27 = .ok (.putfield 162, 3) := by decide +kernel
theorem dX9_chooses_30 : decode cX9_chooses 30 = .ok (.return_, 1) := by decide +kernel
theorem dX9_findsChoices_0 : decode cX9_findsChoices 0 = .ok (.aload_n 0, 1) := by decide +kernel
theorem dX9_findsChoices_1 : decode cX9_findsChoices 1 = .ok (.iconst 0, 1) := by decide +kernel
theorem dX9_findsChoices_2 : decode cX9_findsChoices 2 = .ok (.putfield 162, 3) := by decide +kernel
theorem dX9_findsChoices_5 : decode cX9_findsChoices 5 = .ok (.iconst 0, 1) := by decide +kernel
theorem dX9_findsChoices_6 : decode cX9_findsChoices 6 = .ok (.istore_n 1, 1) := by decide +kernel
theorem dX9_findsChoices_7 : decode cX9_findsChoices 7 = .ok (.iload_n 1, 1) := by decide +kernel
theorem dX9_findsChoices_8 : decode cX9_findsChoices 8 = .ok (.aload_n 0, 1) := by decide +kernel
theorem dX9_findsChoices_9 : decode cX9_findsChoices 9 = .ok (.getfield 149, 3) := by decide +kernel
theorem dX9_findsChoices_12 : decode cX9_findsChoices 12 = .ok (.if_icmp .ge 49, 3) := by decide +kernel
theorem dX9_findsChoices_15 : decode cX9_findsChoices 15 = .ok (.aload_n 0, 1) := by decide +kernel
theorem dX9_findsChoices_16 : decode cX9_findsChoices 16 = .ok (.aload_n 0, 1) := by decide +kernel
theorem dX9_findsChoices_17 : decode cX9_findsChoices 17 = .ok (.getfield 63, 3) := by decide +kernel
theorem dX9_findsChoices_20 : decode cX9_findsChoices 20 = .ok (.iload_n 1, 1) := by decide +kernel
theorem dX9_findsChoices_21 : decode cX9_findsChoices 21 = .ok (.iaload, 1) := by decide +kernel
theorem dX9_findsChoices_22 : decode cX9_findsChoices 22 = .ok (.iload_n 1, 1) := by decide +kernel
theorem dX9_findsChoices_23 : decode cX9_findsChoices 23 = .ok (.invokevirtual 165, 3) := by decide +kernel
theorem dX9_findsChoices_26 : decode cX9_findsChoices 26 = .ok (.aload_n 0, 1) := by decide +kernel
theorem dX9_findsChoices_27 : decode cX9_findsChoices 27 = .ok (.getfield 46, 3) := by decide +kernel
theorem dX9_findsChoices_30 : decode cX9_findsChoices 30 = .ok (.aload_n 0, 1) := by decide +kernel
theorem dX9_findsChoices_31 : decode cX9_findsChoices 31 = .ok (.getfield 63, 3) := by decide +kernel
theorem dX9_findsChoices_34 : decode cX9_findsChoices 34 = .ok (.iload_n 1, 1) := by decide +kernel
theorem dX9_findsChoices_35 : decode cX9_findsChoices 35 = .ok (.iaload, 1) := by decide +kernel
theorem dX9_findsChoices_36 : decode cX9_findsChoices 36 = .ok (.iconst 2, 1) := by decide +kernel
theorem dX9_findsChoices_37 : decode cX9_findsChoices 37 = .ok (.idiv, 1) := by decide +kernel
theorem dX9_findsChoices_38 : decode cX9_findsChoices 38 = .ok (.baload, 1) := by decide +kernel
theorem dX9_findsChoices_39 : decode cX9_findsChoices 39 = .ok (.ifCond .ne 16, 3) := by decide +kernel
theorem dX9_findsChoices_42 : decode cX9_findsChoices 42 = .ok (.aload_n 0, 1) := by decide +kernel
theorem dX9_findsChoices_43 : decode cX9_findsChoices 43 = .ok (.aload_n 0, 1) := by decide +kernel
theorem dX9_findsChoices_44 : decode cX9_findsChoices 44 = .ok (.getfield 63, 3) := by decide +kernel
theorem dX9_findsChoices_47 : decode cX9_findsChoices 47 = .ok (.iload_n 1, 1) := by decide +kernel
theorem dX9_findsChoices_48 : decode cX9_findsChoices 48 = .ok (.iaload, 1) := by decide +kernel
theorem dX9_findsChoices_49 : decode cX9_findsChoices 49 = .ok (.iconst 1, 1) := by decide +kernel
theorem dX9_findsChoices_50 : decode cX9_findsChoices 50 = .ok (.iadd, 1) := by decide +kernel
theorem dX9_findsChoices_51 : decode cX9_findsChoices 51 = .ok (.iload_n 1, 1) := by decide +kernel
theorem dX9_findsChoices_52 : decode cX9_findsChoices 52 = .ok (.invokevirtual 165, 3) := by decide +kernel
theorem dX9_findsChoices_55 : decode cX9_findsChoices 55 = .ok (.iinc 1 1, 3) := by decide +kernel
theorem dX9_findsChoices_58 : decode cX9_findsChoices 58 = .ok (.goto (-51), 3) := by decide +kernel
theorem dX9_findsChoices_61 : decode cX9_findsChoices 61 = .ok (.return_, 1) := by decide +kernel
theorem dX9_bestChoice_0 : decode cX9_bestChoice 0 = .ok (.iconst (-1), 1) := by decide +kernel
theorem dX9_bestChoice_1 : decode cX9_bestChoice 1 = .ok (.istore_n 3, 1) := by decide +kernel
theorem dX9_bestChoice_2 : decode cX9_bestChoice 2 = .ok (.aload_n 0, 1) := by decide +kernel
theorem dX9_bestChoice_3 : decode cX9_bestChoice 3 = .ok (.ldc 136, 2) := by decide +kernel
theorem dX9_bestChoice_5 : decode cX9_bestChoice 5 = .ok (.putfield 169, 3) := by decide +kernel
theorem dX9_bestChoice_8 : decode cX9_bestChoice 8 = .ok (.iconst 0, 1) := by decide +kernel
theorem dX9_bestChoice_9 : decode cX9_bestChoice 9 = .ok (.istore 4, 2) := by decide +kernel
theorem dX9_bestChoice_11 : decode cX9_bestChoice 11 = .ok (.iload 4, 2) := by decide +kernel
theorem dX9_bestChoice_13 : decode cX9_bestChoice 13 = .ok (.aload_n 0, 1) := by decide +kernel
theorem dX9_bestChoice_14 : decode cX9_bestChoice 14 = .ok (.getfield 162, 3) := by decide +kernel
theorem dX9_bestChoice_17 : decode cX9_bestChoice 17 = .ok (.if_icmp .ge 118, 3) := by decide +kernel
theorem dX9_bestChoice_20 : decode cX9_bestChoice 20 = .ok (.iload_n 1, 1) := by decide +kernel
theorem dX9_bestChoice_21 : decode cX9_bestChoice 21 = .ok (.aload_n 0, 1) := by decide +kernel
theorem dX9_bestChoice_22 : decode cX9_bestChoice 22 = .ok (.getfield 75, 3) := by decide +kernel
theorem dX9_bestChoice_25 : decode cX9_bestChoice 25 = .ok (.iload 4, 2) := by decide +kernel
theorem dX9_bestChoice_27 : decode cX9_bestChoice 27 = .ok (.iaload, 1) := by decide +kernel
theorem dX9_bestChoice_28 : decode cX9_bestChoice 28 = .ok (.ishr, 1) := by decide +kernel
theorem dX9_bestChoice_29 : decode cX9_bestChoice 29 = .ok (.iconst 1, 1) := by decide +kernel
theorem dX9_bestChoice_30 : decode cX9_bestChoice 30 = .ok (.iand, 1) := by decide +kernel
theorem dX9_bestChoice_31 : decode cX9_bestChoice 31 = .ok (.iconst 1, 1) := by decide +kernel
theorem dX9_bestChoice_32 : decode cX9_bestChoice 32 = .ok (.if_icmp .ne 6, 3) := by decide +kernel
theorem dX9_bestChoice_35 : decode cX9_bestChoice 35 = .ok (.goto 94, 3) := by decide +kernel
theorem dX9_bestChoice_38 : decode cX9_bestChoice 38 = .ok (.aload_n 0, 1) := by decide +kernel
theorem dX9_bestChoice_39 : decode cX9_bestChoice 39 = .ok (.getfield 60, 3) := by decide +kernel
theorem dX9_bestChoice_42 : decode cX9_bestChoice 42 = .ok (.bipush 10, 2) := by decide +kernel
theorem dX9_bestChoice_44 : decode cX9_bestChoice 44 = .ok (.iload_n 2, 1) := by decide +kernel
theorem dX9_bestChoice_45 : decode cX9_bestChoice 45 = .ok (.imul, 1) := by decide +kernel
theorem dX9_bestChoice_46 : decode cX9_bestChoice 46 = .ok (.aload_n 0, 1) := by decide +kernel
theorem dX9_bestChoice_47 : decode cX9_bestChoice 47 = .ok (.aload_n 0, 1) := by decide +kernel
theorem dX9_bestChoice_48 : decode cX9_bestChoice 48 = .ok (.getfield 72, 3) := by decide +kernel
theorem dX9_bestChoice_51 : decode cX9_bestChoice 51 = .ok (.iload 4, 2) := by decide +kernel
theorem dX9_bestChoice_53 : decode cX9_bestChoice 53 = .ok (.iaload, 1) := by decide +kernel
theorem dX9_bestChoice_54 : decode cX9_bestChoice 54 = .ok (.invokevirtual 172, 3) := by decide +kernel
theorem dX9_bestChoice_57 : decode cX9_bestChoice 57 = .ok (.iadd, 1) := by decide +kernel
theorem dX9_bestChoice_58 : decode cX9_bestChoice 58 = .ok (.iaload, 1) := by decide +kernel
theorem dX9_bestChoice_59 : decode cX9_bestChoice 59 = .ok (.aload_n 0, 1) := by decide +kernel
theorem dX9_bestChoice_60 : decode cX9_bestChoice 60 = .ok (.getfield 16, 3) := by decide +kernel
theorem dX9_bestChoice_63 : decode cX9_bestChoice 63 = .ok (.aload_n 0, 1) := by decide +kernel
theorem dX9_bestChoice_64 : decode cX9_bestChoice 64 = .ok (.getfield 72, 3) := by decide +kernel
theorem dX9_bestChoice_67 : decode cX9_bestChoice 67 = .ok (.iload 4, 2) := by decide +kernel
theorem dX9_bestChoice_69 : decode cX9_bestChoice 69 = .ok (.iaload, 1) := by decide +kernel
theorem dX9_bestChoice_70 : decode cX9_bestChoice 70 = .ok (.iconst 2, 1) := by decide +kernel
theorem dX9_bestChoice_71 : decode cX9_bestChoice 71 = .ok (.idiv, 1) := by decide +kernel
theorem dX9_bestChoice_72 : decode cX9_bestChoice 72 = .ok (.iaload, 1) := by decide +kernel
theorem dX9_bestChoice_73 : decode cX9_bestChoice 73 = .ok (.iadd, 1) := by decide +kernel
theorem dX9_bestChoice_74 : decode cX9_bestChoice 74 = .ok (.aload_n 0, 1) := by decide +kernel
theorem dX9_bestChoice_75 : decode cX9_bestChoice 75 = .ok (.getfield 66, 3) := by decide +kernel
theorem dX9_bestChoice_78 : decode cX9_bestChoice 78 = .ok (.bipush 10, 2) := by decide +kernel
theorem dX9_bestChoice_80 : decode cX9_bestChoice 80 = .ok (.iload_n 1, 1) := by decide +kernel
theorem dX9_bestChoice_81 : decode cX9_bestChoice 81 = .ok (.iconst 1, 1) := by decide +kernel
theorem dX9_bestChoice_82 : decode cX9_bestChoice 82 = .ok (.aload_n 0, 1) := by decide +kernel
theorem dX9_bestChoice_83 : decode cX9_bestChoice 83 = .ok (.getfield 75, 3) := by decide +kernel
theorem dX9_bestChoice_86 : decode cX9_bestChoice 86 = .ok (.iload 4, 2) := by decide +kernel
theorem dX9_bestChoice_88 : decode cX9_bestChoice 88 = .ok (.iaload, 1) := by decide +kernel
theorem dX9_bestChoice_89 : decode cX9_bestChoice 89 = .ok (.ishl, 1) := by decide +kernel
theorem dX9_bestChoice_90 : decode cX9_bestChoice 90 = .ok (.ior, 1) := by decide +kernel
theorem dX9_bestChoice_91 : decode cX9_bestChoice 91 = .ok (.imul, 1) := by decide +kernel
theorem dX9_bestChoice_92 : decode cX9_bestChoice 92 = .ok (.aload_n 0, 1) := by decide +kernel
theorem dX9_bestChoice_93 : decode cX9_bestChoice 93 = .ok (.aload_n 0, 1) := by decide +kernel
theorem dX9_bestChoice_94 : decode cX9_bestChoice 94 = .ok (.getfield 72, 3) := by decide +kernel
theorem dX9_bestChoice_97 : decode cX9_bestChoice 97 = .ok (.iload 4, 2) := by decide +kernel
theorem dX9_bestChoice_99 : decode cX9_bestChoice 99 = .ok (.iaload, 1) := by decide +kernel
theorem dX9_bestChoice_100 : decode cX9_bestChoice 100 = .ok (.invokevirtual 175, 3) := by decide +kernel
theorem dX9_bestChoice_103 : decode cX9_bestChoice 103 = .ok (.iadd, 1) := by decide +kernel
theorem dX9_bestChoice_104 : decode cX9_bestChoice 104 = .ok (.iaload, 1) := by decide +kernel
theorem dX9_bestChoice_105 : decode cX9_bestChoice 105 = .ok (.iadd, 1) := by decide +kernel
theorem dX9_bestChoice_106 : decode cX9_bestChoice 106 = .ok (.istore 5, 2) := by decide +kernel
theorem dX9_bestChoice_108 : decode cX9_bestChoice 108 = .ok (.iload 5, 2) := by decide +kernel
theorem dX9_bestChoice_110 : decode cX9_bestChoice 110 = .ok (.aload_n 0, 1) := by decide +kernel
theorem dX9_bestChoice_111 : decode cX9_bestChoice 111 = .ok (.getfield 169, 3) := by decide +kernel
theorem dX9_bestChoice_114 : decode cX9_bestChoice 114 = .ok (.if_icmp .lt 6, 3) := by decide +kernel
theorem dX9_bestChoice_117 : decode cX9_bestChoice 117 = .ok (.goto 12, 3) := by decide +kernel
theorem dX9_bestChoice_120 : decode cX9_bestChoice 120 = .ok (.aload_n 0, 1) := by decide +kernel
theorem dX9_bestChoice_121 : decode cX9_bestChoice 121 = .ok (.iload 5, 2) := by decide +kernel
theorem dX9_bestChoice_123 : decode cX9_bestChoice 123 = .ok (.putfield 169, 3) := by decide +kernel
theorem dX9_bestChoice_126 : decode cX9_bestChoice 126 = .ok (.iload 4, 2) := by decide +kernel
theorem dX9_bestChoice_128 : decode cX9_bestChoice 128 = .ok (.istore_n 3, 1) := by decide +kernel
theorem dX9_bestChoice_129 : decode cX9_bestChoice 129 = .ok (.iinc 4 1, 3) := by decide +kernel
theorem dX9_bestChoice_132 : decode cX9_bestChoice 132 = .ok (.goto (-121), 3) := by decide +kernel
theorem dX9_bestChoice_135 : decode cX9_bestChoice 135 = .ok (.iload_n 3, 1) := by decide +kernel
theorem dX9_bestChoice_136 : decode cX9_bestChoice 136 = .ok (.ireturn, 1) := by decide +kernel
theorem dX9_walks_0 : decode cX9_walks 0 = .ok (.aload_n 0, 1) := by decide +kernel
theorem dX9_walks_1 : decode cX9_walks 1 = .ok (.invokevirtual 143, 3) := by decide +kernel
theorem dX9_walks_4 : decode cX9_walks 4 = .ok (.aload_n 0, 1) := by decide +kernel
theorem dX9_walks_5 : decode cX9_walks 5 = .ok (.iload_n 1, 1) := by decide +kernel
theorem dX9_walks_6 : decode cX9_walks 6 = .ok (.invokevirtual 159, 3) := by decide +kernel
theorem dX9_walks_9 : decode cX9_walks 9 = .ok (.aload_n 0, 1) := by decide +kernel
theorem dX9_walks_10 : decode cX9_walks 10 = .ok (.getfield 149, 3) := by decide +kernel
theorem dX9_walks_13 : decode cX9_walks 13 = .ok (.bipush 8, 2) := by decide +kernel
theorem dX9_walks_15 : decode cX9_walks 15 = .ok (.if_icmp .le 5, 3) := by decide +kernel
theorem dX9_walks_18 : decode cX9_walks 18 = .ok (.iconst 0, 1) := by decide +kernel
theorem dX9_walks_19 : decode cX9_walks 19 = .ok (.ireturn, 1) := by decide +kernel
theorem dX9_walks_20 : decode cX9_walks 20 = .ok (.aload_n 0, 1) := by decide +kernel
theorem dX9_walks_21 : decode cX9_walks 21 = .ok (.invokevirtual 178, 3) := by decide +kernel
theorem dX9_walks_24 : decode cX9_walks 24 = .ok (.iconst 1, 1) := by decide +kernel
theorem dX9_walks_25 : decode cX9_walks 25 = .ok (.aload_n 0, 1) := by decide +kernel
theorem dX9_walks_26 : decode cX9_walks 26 = .ok (.getfield 149, 3) := by decide +kernel
theorem dX9_walks_29 : decode cX9_walks 29 = .ok (.ishl, 1) := by decide +kernel
theorem dX9_walks_30 : decode cX9_walks 30 = .ok (.iconst 1, 1) := by decide +kernel
theorem dX9_walks_31 : decode cX9_walks 31 = .ok (.isub, 1) := by decide +kernel
theorem dX9_walks_32 : decode cX9_walks 32 = .ok (.istore_n 2, 1) := by decide +kernel
theorem dX9_walks_33 : decode cX9_walks 33 = .ok (.iload_n 2, 1) := by decide +kernel
theorem dX9_walks_34 : decode cX9_walks 34 = .ok (.istore_n 3, 1) := by decide +kernel
theorem dX9_walks_35 : decode cX9_walks 35 = .ok (.iload_n 3, 1) := by decide +kernel
theorem dX9_walks_36 : decode cX9_walks 36 = .ok (.ifCond .lt 70, 3) := by decide +kernel
theorem dX9_walks_39 : decode cX9_walks 39 = .ok (.iconst 0, 1) := by decide +kernel
theorem dX9_walks_40 : decode cX9_walks 40 = .ok (.istore 4, 2) := by decide +kernel
theorem dX9_walks_42 : decode cX9_walks 42 = .ok (.iload 4, 2) := by decide +kernel
theorem dX9_walks_44 : decode cX9_walks 44 = .ok (.aload_n 0, 1) := by decide +kernel
theorem dX9_walks_45 : decode cX9_walks 45 = .ok (.getfield 53, 3) := by decide +kernel
theorem dX9_walks_48 : decode cX9_walks 48 = .ok (.if_icmp .ge 52, 3) := by decide +kernel
theorem dX9_walks_51 : decode cX9_walks 51 = .ok (.aload_n 0, 1) := by decide +kernel
theorem dX9_walks_52 : decode cX9_walks 52 = .ok (.iload_n 3, 1) := by decide +kernel
theorem dX9_walks_53 : decode cX9_walks 53 = .ok (.iload 4, 2) := by decide +kernel
theorem dX9_walks_55 : decode cX9_walks 55 = .ok (.invokevirtual 181, 3) := by decide +kernel
theorem dX9_walks_58 : decode cX9_walks 58 = .ok (.istore 5, 2) := by decide +kernel
theorem dX9_walks_60 : decode cX9_walks 60 = .ok (.aload_n 0, 1) := by decide +kernel
theorem dX9_walks_61 : decode cX9_walks 61 = .ok (.getfield 66, 3) := by decide +kernel
theorem dX9_walks_64 : decode cX9_walks 64 = .ok (.bipush 10, 2) := by decide +kernel
theorem dX9_walks_66 : decode cX9_walks 66 = .ok (.iload_n 3, 1) := by decide +kernel
theorem dX9_walks_67 : decode cX9_walks 67 = .ok (.imul, 1) := by decide +kernel
theorem dX9_walks_68 : decode cX9_walks 68 = .ok (.iload 4, 2) := by decide +kernel
theorem dX9_walks_70 : decode cX9_walks 70 = .ok (.iadd, 1) := by decide +kernel
theorem dX9_walks_71 : decode cX9_walks 71 = .ok (.iload_n 3, 1) := by decide +kernel
theorem dX9_walks_72 : decode cX9_walks 72 = .ok (.iload_n 2, 1) := by decide +kernel
theorem dX9_walks_73 : decode cX9_walks 73 = .ok (.if_icmp .ne 16, 3) := by decide +kernel
theorem dX9_walks_76 : decode cX9_walks 76 = .ok (.aload_n 0, 1) := by decide +kernel
theorem dX9_walks_77 : decode cX9_walks 77 = .ok (.getfield 60, 3) := by decide +kernel
theorem dX9_walks_80 : decode cX9_walks 80 = .ok (.bipush 10, 2) := by decide +kernel
theorem dX9_walks_82 : decode cX9_walks 82 = .ok (.iload 4, 2) := by decide +kernel
theorem dX9_walks_84 : decode cX9_walks 84 = .ok (.imul, 1) := by decide +kernel
theorem dX9_walks_85 : decode cX9_walks 85 = .ok (.iaload, 1) := by decide +kernel
theorem dX9_walks_86 : decode cX9_walks 86 = .ok (.goto 7, 3) := by decide +kernel
theorem dX9_walks_89 : decode cX9_walks 89 = .ok (.aload_n 0, 1) := by decide +kernel
theorem dX9_walks_90 : decode cX9_walks 90 = .ok (.getfield 169, 3) := by decide +kernel
theorem dX9_walks_93 : decode cX9_walks 93 = .ok (.iastore, 1) := by decide +kernel
theorem dX9_walks_94 : decode cX9_walks 94 = .ok (.iinc 4 1, 3) := by decide +kernel
theorem dX9_walks_97 : decode cX9_walks 97 = .ok (.goto (-55), 3) := by decide +kernel
theorem dX9_walks_100 : decode cX9_walks 100 = .ok (.iinc 3 (-1), 3) := by decide +kernel
theorem dX9_walks_103 : decode cX9_walks 103 = .ok (.goto (-68), 3) := by decide +kernel
theorem dX9_walks_106 : decode cX9_walks 106 = .ok (.aload_n 0, 1) := by decide +kernel
theorem dX9_walks_107 : decode cX9_walks 107 = .ok (.aload_n 0, 1) := by decide +kernel
theorem dX9_walks_108 : decode cX9_walks 108 = .ok (.getfield 66, 3) := by decide +kernel
theorem dX9_walks_111 : decode cX9_walks 111 = .ok (.iconst 0, 1) := by decide +kernel
theorem dX9_walks_112 : decode cX9_walks 112 = .ok (.iaload, 1) := by decide +kernel
theorem dX9_walks_113 : decode cX9_walks 113 = .ok (.putfield 184, 3) := by decide +kernel
theorem dX9_walks_116 : decode cX9_walks 116 = .ok (.aload_n 0, 1) := by decide +kernel
theorem dX9_walks_117 : decode cX9_walks 117 = .ok (.getfield 184, 3) := by decide +kernel
theorem dX9_walks_120 : decode cX9_walks 120 = .ok (.ldc 136, 2) := by decide +kernel
theorem dX9_walks_122 : decode cX9_walks 122 = .ok (.if_icmp .lt 5, 3) := by decide +kernel
theorem dX9_walks_125 : decode cX9_walks 125 = .ok (.iconst 0, 1) := by decide +kernel
theorem dX9_walks_126 : decode cX9_walks 126 = .ok (.ireturn, 1) := by decide +kernel
theorem dX9_walks_127 : decode cX9_walks 127 = .ok (.iconst 0, 1) := by decide +kernel
theorem dX9_walks_128 : decode cX9_walks 128 = .ok (.istore_n 3, 1) := by decide +kernel
theorem dX9_walks_129 : decode cX9_walks 129 = .ok (.iconst 0, 1) := by decide +kernel
theorem dX9_walks_130 : decode cX9_walks 130 = .ok (.istore 4, 2) := by decide +kernel
theorem dX9_walks_132 : decode cX9_walks 132 = .ok (.iconst 0, 1) := by decide +kernel
theorem dX9_walks_133 : decode cX9_walks 133 = .ok (.istore 5, 2) := by decide +kernel
theorem dX9_walks_135 : decode cX9_walks 135 = .ok (.iload 5, 2) := by decide +kernel
theorem dX9_walks_137 : decode cX9_walks 137 = .ok (.aload_n 0, 1) := by decide +kernel
theorem dX9_walks_138 : decode cX9_walks 138 = .ok (.getfield 149, 3) := by decide +kernel
theorem dX9_walks_141 : decode cX9_walks 141 = .ok (.if_icmp .ge 57, 3) := by decide +kernel
theorem dX9_walks_144 : decode cX9_walks 144 = .ok (.aload_n 0, 1) := by decide +kernel
theorem dX9_walks_145 : decode cX9_walks 145 = .ok (.iload_n 3, 1) := by decide +kernel
theorem dX9_walks_146 : decode cX9_walks 146 = .ok (.iload 4, 2) := by decide +kernel
theorem dX9_walks_148 : decode cX9_walks 148 = .ok (.invokevirtual 181, 3) := by decide +kernel
theorem dX9_walks_151 : decode cX9_walks 151 = .ok (.istore 6, 2) := by decide +kernel
theorem dX9_walks_153 : decode cX9_walks 153 = .ok (.aload_n 0, 1) := by decide +kernel
theorem dX9_walks_154 : decode cX9_walks 154 = .ok (.getfield 69, 3) := by decide +kernel
theorem dX9_walks_157 : decode cX9_walks 157 = .ok (.iload 5, 2) := by decide +kernel
theorem dX9_walks_159 : decode cX9_walks 159 = .ok (.aload_n 0, 1) := by decide +kernel
theorem dX9_walks_160 : decode cX9_walks 160 = .ok (.getfield 72, 3) := by decide +kernel
theorem dX9_walks_163 : decode cX9_walks 163 = .ok (.iload 6, 2) := by decide +kernel
theorem dX9_walks_165 : decode cX9_walks 165 = .ok (.iaload, 1) := by decide +kernel
theorem dX9_walks_166 : decode cX9_walks 166 = .ok (.iastore, 1) := by decide +kernel
theorem dX9_walks_167 : decode cX9_walks 167 = .ok (.iload_n 3, 1) := by decide +kernel
theorem dX9_walks_168 : decode cX9_walks 168 = .ok (.iconst 1, 1) := by decide +kernel
theorem dX9_walks_169 : decode cX9_walks 169 = .ok (.aload_n 0, 1) := by decide +kernel
theorem dX9_walks_170 : decode cX9_walks 170 = .ok (.getfield 75, 3) := by decide +kernel
theorem dX9_walks_173 : decode cX9_walks 173 = .ok (.iload 6, 2) := by decide +kernel
theorem dX9_walks_175 : decode cX9_walks 175 = .ok (.iaload, 1) := by decide +kernel
theorem dX9_walks_176 : decode cX9_walks 176 = .ok (.ishl, 1) := by decide +kernel
theorem dX9_walks_177 : decode cX9_walks 177 = .ok (.ior, 1) := by decide +kernel
theorem dX9_walks_178 : decode cX9_walks 178 = .ok (.istore_n 3, 1) := by decide +kernel
theorem dX9_walks_179 : decode cX9_walks 179 = .ok (.aload_n 0, 1) := by decide +kernel
theorem dX9_walks_180 : decode cX9_walks 180 = .ok (.aload_n 0, 1) := by decide +kernel
theorem dX9_walks_181 : decode cX9_walks 181 = .ok (.getfield 69, 3) := by decide +kernel
theorem dX9_walks_184 : decode cX9_walks 184 = .ok (.iload 5, 2) := by decide +kernel
theorem dX9_walks_186 : decode cX9_walks 186 = .ok (.iaload, 1) := by decide +kernel
theorem dX9_walks_187 : decode cX9_walks 187 = .ok (.invokevirtual 175, 3) := by decide +kernel
theorem dX9_walks_190 : decode cX9_walks 190 = .ok (.istore 4, 2) := by decide +kernel
theorem dX9_walks_192 : decode cX9_walks 192 = .ok (.iinc 5 1, 3) := by decide +kernel
theorem dX9_walks_195 : decode cX9_walks 195 = .ok (.goto (-60), 3) := by decide +kernel
theorem dX9_walks_198 : decode cX9_walks 198 = .ok (.iconst 1, 1) := by decide +kernel
theorem dX9_walks_199 : decode cX9_walks 199 = .ok (.ireturn, 1) := by decide +kernel
theorem dX9_isWalkless_0 : decode cX9_isWalkless 0 = .ok (.aload_n 0, 1) := by decide +kernel
theorem dX9_isWalkless_1 : decode cX9_isWalkless 1 = .ok (.iconst 0, 1) := by decide +kernel
theorem dX9_isWalkless_2 : decode cX9_isWalkless 2 = .ok (.putfield 81, 3) := by decide +kernel
theorem dX9_isWalkless_5 : decode cX9_isWalkless 5 = .ok (.aload_n 0, 1) := by decide +kernel
theorem dX9_isWalkless_6 : decode cX9_isWalkless 6 = .ok (.iload_n 1, 1) := by decide +kernel
theorem dX9_isWalkless_7 : decode cX9_isWalkless 7 = .ok (.invokevirtual 111, 3) := by decide +kernel
theorem dX9_isWalkless_10 : decode cX9_isWalkless 10 = .ok (.ifCond .ne 12, 3) := by decide +kernel
theorem dX9_isWalkless_13 : decode cX9_isWalkless 13 = .ok (.aload_n 0, 1) := by decide +kernel
theorem dX9_isWalkless_14 : decode cX9_isWalkless 14 = .ok (.iconst 1, 1) := by decide +kernel
theorem dX9_isWalkless_15 : decode cX9_isWalkless 15 = .ok (.invokevirtual 100, 3) := by decide +kernel
theorem dX9_isWalkless_18 : decode cX9_isWalkless 18 = .ok (.pop, 1) := by decide +kernel
theorem dX9_isWalkless_19 : decode cX9_isWalkless 19 = .ok (.goto 19, 3) := by decide +kernel
theorem dX9_isWalkless_22 : decode cX9_isWalkless 22 = .ok (.aload_n 0, 1) := by decide +kernel
theorem dX9_isWalkless_23 : decode cX9_isWalkless 23 = .ok (.iconst 1, 1) := by decide +kernel
theorem dX9_isWalkless_24 : decode cX9_isWalkless 24 = .ok (.iload_n 1, 1) := by decide +kernel
theorem dX9_isWalkless_25 : decode cX9_isWalkless 25 = .ok (.ishl, 1) := by decide +kernel
theorem dX9_isWalkless_26 : decode cX9_isWalkless 26 = .ok (.invokevirtual 187, 3) := by decide +kernel
theorem dX9_isWalkless_29 : decode cX9_isWalkless 29 = .ok (.ifCond .ne 9, 3) := by decide +kernel
theorem dX9_isWalkless_32 : decode cX9_isWalkless 32 = .ok (.aload_n 0, 1) := by decide +kernel
theorem dX9_isWalkless_33 : decode cX9_isWalkless 33 = .ok (.iconst 2, 1) := by decide +kernel
theorem dX9_isWalkless_34 : decode cX9_isWalkless 34 = .ok (.invokevirtual 100, 3) := by decide +kernel
theorem dX9_isWalkless_37 : decode cX9_isWalkless 37 = .ok (.pop, 1) := by decide +kernel
theorem dX9_isWalkless_38 : decode cX9_isWalkless 38 = .ok (.aload_n 0, 1) := by decide +kernel
theorem dX9_isWalkless_39 : decode cX9_isWalkless 39 = .ok (.getfield 81, 3) := by decide +kernel
theorem dX9_isWalkless_42 : decode cX9_isWalkless 42 = .ok (.ifCond .le 7, 3) := by decide +kernel
theorem dX9_isWalkless_45 : decode cX9_isWalkless 45 = .ok (.iconst 1, 1) := by decide +kernel
theorem dX9_isWalkless_46 : decode cX9_isWalkless 46 = .ok (.goto 4, 3) := by decide +kernel
theorem dX9_isWalkless_49 : decode cX9_isWalkless 49 = .ok (.iconst 0, 1) := by decide +kernel
theorem dX9_isWalkless_50 : decode cX9_isWalkless 50 = .ok (.ireturn, 1) := by decide +kernel
theorem dX9_hasWalk_0 : decode cX9_hasWalk 0 = .ok (.aload_n 0, 1) := by decide +kernel
theorem dX9_hasWalk_1 : decode cX9_hasWalk 1 = .ok (.iconst 0, 1) := by decide +kernel
theorem dX9_hasWalk_2 : decode cX9_hasWalk 2 = .ok (.putfield 81, 3) := by decide +kernel
theorem dX9_hasWalk_5 : decode cX9_hasWalk 5 = .ok (.aload_n 0, 1) := by decide +kernel
theorem dX9_hasWalk_6 : decode cX9_hasWalk 6 = .ok (.iload_n 1, 1) := by decide +kernel
theorem dX9_hasWalk_7 : decode cX9_hasWalk 7 = .ok (.invokevirtual 111, 3) := by decide +kernel
theorem dX9_hasWalk_10 : decode cX9_hasWalk 10 = .ok (.ifCond .eq 13, 3) := by decide +kernel
theorem dX9_hasWalk_13 : decode cX9_hasWalk 13 = .ok (.aload_n 0, 1) := by decide +kernel
theorem dX9_hasWalk_14 : decode cX9_hasWalk 14 = .ok (.iconst 1, 1) := by decide +kernel
theorem dX9_hasWalk_15 : decode cX9_hasWalk 15 = .ok (.iload_n 1, 1) := by decide +kernel
theorem dX9_hasWalk_16 : decode cX9_hasWalk 16 = .ok (.ishl, 1) := by decide +kernel
theorem dX9_hasWalk_17 : decode cX9_hasWalk 17 = .ok (.invokevirtual 187, 3) := by decide +kernel
theorem dX9_hasWalk_20 : decode cX9_hasWalk 20 = .ok (.goto 16, 3) := by decide +kernel
theorem dX9_hasWalk_23 : decode cX9_hasWalk 23 = .ok (.aload_n 0, 1) := by decide +kernel
theorem dX9_hasWalk_24 : decode cX9_hasWalk 24 = .ok (.iconst 1, 1) := by decide +kernel
theorem dX9_hasWalk_25 : decode cX9_hasWalk 25 = .ok (.invokevirtual 100, 3) := by decide +kernel
theorem dX9_hasWalk_28 : decode cX9_hasWalk 28 = .ok (.ifCond .le 7, 3) := by decide +kernel
theorem dX9_hasWalk_31 : decode cX9_hasWalk 31 = .ok (.iconst 1, 1) := by decide +kernel
theorem dX9_hasWalk_32 : decode cX9_hasWalk 32 = .ok (.goto 4, 3) := by decide +kernel
theorem dX9_hasWalk_35 : decode cX9_hasWalk 35 = .ok (.iconst 0, 1) := by decide +kernel
theorem dX9_hasWalk_36 : decode cX9_hasWalk 36 = .ok (.ireturn, 1) := by decide +kernel
theorem dX9_walkLength_0 : decode cX9_walkLength 0 = .ok (.aload_n 0, 1) := by decide +kernel
theorem dX9_walkLength_1 : decode cX9_walkLength 1 = .ok (.iload_n 1, 1) := by decide +kernel
theorem dX9_walkLength_2 : decode cX9_walkLength 2 = .ok (.invokevirtual 190, 3) := by decide +kernel
theorem dX9_walkLength_5 : decode cX9_walkLength 5 = .ok (.ifCond .eq 7, 3) := by decide +kernel
theorem dX9_walkLength_8 : decode cX9_walkLength 8 = .ok (.iconst 0, 1) := by decide +kernel
theorem dX9_walkLength_9 : decode cX9_walkLength 9 = .ok (.goto 7, 3) := by decide +kernel
theorem dX9_walkLength_12 : decode cX9_walkLength 12 = .ok (.aload_n 0, 1) := by decide +kernel
theorem dX9_walkLength_13 : decode cX9_walkLength 13 = .ok (.getfield 184, 3) := by decide +kernel
theorem dX9_walkLength_16 : decode cX9_walkLength 16 = .ok (.ireturn, 1) := by decide +kernel
theorem dX9_lengthByTrying_0 : decode cX9_lengthByTrying 0 = .ok (.aload_n 0, 1) := by decide +kernel
theorem dX9_lengthByTrying_1 : decode cX9_lengthByTrying 1 = .ok (.iload_n 1, 1) := by decide +kernel
theorem dX9_lengthByTrying_2 : decode cX9_lengthByTrying 2 = .ok (.invokevirtual 190, 3) := by decide +kernel
theorem dX9_lengthByTrying_5 : decode cX9_lengthByTrying 5 = .ok (.ifCond .eq 5, 3) := by decide +kernel
theorem dX9_lengthByTrying_8 : decode cX9_lengthByTrying 8 = .ok (.iconst 0, 1) := by decide +kernel
theorem dX9_lengthByTrying_9 : decode cX9_lengthByTrying 9 = .ok (.ireturn, 1) := by decide +kernel
theorem dX9_lengthByTrying_10 : decode cX9_lengthByTrying 10 = .ok (.aload_n 0, 1) := by decide +kernel
theorem dX9_lengthByTrying_11 : decode cX9_lengthByTrying 11 = .ok (.getfield 149, 3) := by decide +kernel
theorem dX9_lengthByTrying_14 : decode cX9_lengthByTrying 14 = .ok (.iconst 5, 1) := by decide +kernel
theorem dX9_lengthByTrying_15 : decode cX9_lengthByTrying 15 = .ok (.if_icmp .le 11, 3) := by decide +kernel
theorem dX9_lengthByTrying_18 : decode cX9_lengthByTrying 18 = .ok (.aload_n 0, 1) := by decide +kernel
theorem dX9_lengthByTrying_19 : decode cX9_lengthByTrying 19 = .ok (.iconst 3, 1) := by decide +kernel
theorem dX9_lengthByTrying_20 : decode cX9_lengthByTrying 20 = .ok (.invokevirtual 100, 3) := by decide +kernel
theorem dX9_lengthByTrying_23 : decode cX9_lengthByTrying 23 = .ok (.goto 7, 3) := by decide +kernel
theorem dX9_lengthByTrying_26 : decode cX9_lengthByTrying 26 = .ok (.aload_n 0, 1) := by decide +kernel
theorem dX9_lengthByTrying_27 : decode cX9_lengthByTrying 27 = .ok (.getfield 184, 3) := by decide +kernel
theorem dX9_lengthByTrying_30 : decode cX9_lengthByTrying 30 = .ok (.ireturn, 1) := by decide +kernel
theorem dX9_passAt_0 : decode cX9_passAt 0 = .ok (.aload_n 0, 1) := by decide +kernel
theorem dX9_passAt_1 : decode cX9_passAt 1 = .ok (.iload_n 1, 1) := by decide +kernel
theorem dX9_passAt_2 : decode cX9_passAt 2 = .ok (.invokevirtual 190, 3) := by decide +kernel
theorem dX9_passAt_5 : decode cX9_passAt 5 = .ok (.ifCond .eq 5, 3) := by decide +kernel
theorem dX9_passAt_8 : decode cX9_passAt 8 = .ok (.iconst 0, 1) := by decide +kernel
theorem dX9_passAt_9 : decode cX9_passAt 9 = .ok (.ireturn, 1) := by decide +kernel
theorem dX9_passAt_10 : decode cX9_passAt 10 = .ok (.iload_n 2, 1) := by decide +kernel
theorem dX9_passAt_11 : decode cX9_passAt 11 = .ok (.iconst 0, 1) := by decide +kernel
theorem dX9_passAt_12 : decode cX9_passAt 12 = .ok (.aload_n 0, 1) := by decide +kernel
theorem dX9_passAt_13 : decode cX9_passAt 13 = .ok (.getfield 149, 3) := by decide +kernel
theorem dX9_passAt_16 : decode cX9_passAt 16 = .ok (.iconst 1, 1) := by decide +kernel
theorem dX9_passAt_17 : decode cX9_passAt 17 = .ok (.isub, 1) := by decide +kernel
theorem dX9_passAt_18 : decode cX9_passAt 18 = .ok (.invokestatic 87, 3) := by decide +kernel
theorem dX9_passAt_21 : decode cX9_passAt 21 = .ok (.ifCond .eq 12, 3) := by decide +kernel
theorem dX9_passAt_24 : decode cX9_passAt 24 = .ok (.aload_n 0, 1) := by decide +kernel
theorem dX9_passAt_25 : decode cX9_passAt 25 = .ok (.getfield 69, 3) := by decide +kernel
theorem dX9_passAt_28 : decode cX9_passAt 28 = .ok (.iload_n 2, 1) := by decide +kernel
theorem dX9_passAt_29 : decode cX9_passAt 29 = .ok (.iaload, 1) := by decide +kernel
theorem dX9_passAt_30 : decode cX9_passAt 30 = .ok (.goto 8, 3) := by decide +kernel
theorem dX9_passAt_33 : decode cX9_passAt 33 = .ok (.aload_n 0, 1) := by decide +kernel
theorem dX9_passAt_34 : decode cX9_passAt 34 = .ok (.iconst 3, 1) := by decide +kernel
theorem dX9_passAt_35 : decode cX9_passAt 35 = .ok (.invokevirtual 100, 3) := by decide +kernel
theorem dX9_passAt_38 : decode cX9_passAt 38 = .ok (.ireturn, 1) := by decide +kernel
theorem dX9_comesTo_0 : decode cX9_comesTo 0 = .ok (.aload_n 0, 1) := by decide +kernel
theorem dX9_comesTo_1 : decode cX9_comesTo 1 = .ok (.getfield 78, 3) := by decide +kernel
theorem dX9_comesTo_4 : decode cX9_comesTo 4 = .ok (.aload_n 0, 1) := by decide +kernel
theorem dX9_comesTo_5 : decode cX9_comesTo 5 = .ok (.getfield 193, 3) := by decide +kernel
theorem dX9_comesTo_8 : decode cX9_comesTo 8 = .ok (.iload_n 1, 1) := by decide +kernel
theorem dX9_comesTo_9 : decode cX9_comesTo 9 = .ok (.iastore, 1) := by decide +kernel
theorem dX9_comesTo_10 : decode cX9_comesTo 10 = .ok (.aload_n 0, 1) := by decide +kernel
theorem dX9_comesTo_11 : decode cX9_comesTo 11 = .ok (.dup, 1) := by decide +kernel
theorem dX9_comesTo_12 : decode cX9_comesTo 12 = .ok (.getfield 193, 3) := by decide +kernel
theorem dX9_comesTo_15 : decode cX9_comesTo 15 = .ok (.iconst 1, 1) := by decide +kernel
theorem dX9_comesTo_16 : decode cX9_comesTo 16 = .ok (.iadd, 1) := by decide +kernel
theorem dX9_comesTo_17 : decode cX9_comesTo 17 = .ok (.putfield 193, 3) := by decide +kernel
theorem dX9_comesTo_20 : decode cX9_comesTo 20 = .ok (.return_, 1) := by decide +kernel
theorem dX9_shortest_0 : decode cX9_shortest 0 = .ok (.ldc 136, 2) := by decide +kernel
theorem dX9_shortest_2 : decode cX9_shortest 2 = .ok (.istore_n 3, 1) := by decide +kernel
theorem dX9_shortest_3 : decode cX9_shortest 3 = .ok (.iconst 0, 1) := by decide +kernel
theorem dX9_shortest_4 : decode cX9_shortest 4 = .ok (.istore 4, 2) := by decide +kernel
theorem dX9_shortest_6 : decode cX9_shortest 6 = .ok (.iload 4, 2) := by decide +kernel
theorem dX9_shortest_8 : decode cX9_shortest 8 = .ok (.aload_n 0, 1) := by decide +kernel
theorem dX9_shortest_9 : decode cX9_shortest 9 = .ok (.getfield 84, 3) := by decide +kernel
theorem dX9_shortest_12 : decode cX9_shortest 12 = .ok (.if_icmp .ge 65, 3) := by decide +kernel
theorem dX9_shortest_15 : decode cX9_shortest 15 = .ok (.aload_n 0, 1) := by decide +kernel
theorem dX9_shortest_16 : decode cX9_shortest 16 = .ok (.getfield 9, 3) := by decide +kernel
theorem dX9_shortest_19 : decode cX9_shortest 19 = .ok (.iload 4, 2) := by decide +kernel
theorem dX9_shortest_21 : decode cX9_shortest 21 = .ok (.iaload, 1) := by decide +kernel
theorem dX9_shortest_22 : decode cX9_shortest 22 = .ok (.iload_n 1, 1) := by decide +kernel
theorem dX9_shortest_23 : decode cX9_shortest 23 = .ok (.if_icmp .ne 14, 3) := by decide +kernel
theorem dX9_shortest_26 : decode cX9_shortest 26 = .ok (.aload_n 0, 1) := by decide +kernel
theorem dX9_shortest_27 : decode cX9_shortest 27 = .ok (.getfield 13, 3) := by decide +kernel
theorem dX9_shortest_30 : decode cX9_shortest 30 = .ok (.iload 4, 2) := by decide +kernel
theorem dX9_shortest_32 : decode cX9_shortest 32 = .ok (.iaload, 1) := by decide +kernel
theorem dX9_shortest_33 : decode cX9_shortest 33 = .ok (.iload_n 2, 1) := by decide +kernel
theorem dX9_shortest_34 : decode cX9_shortest 34 = .ok (.if_icmp .eq 25, 3) := by decide +kernel
theorem dX9_shortest_37 : decode cX9_shortest 37 = .ok (.aload_n 0, 1) := by decide +kernel
theorem dX9_shortest_38 : decode cX9_shortest 38 = .ok (.getfield 9, 3) := by decide +kernel
theorem dX9_shortest_41 : decode cX9_shortest 41 = .ok (.iload 4, 2) := by decide +kernel
theorem dX9_shortest_43 : decode cX9_shortest 43 = .ok (.iaload, 1) := by decide +kernel
theorem dX9_shortest_44 : decode cX9_shortest 44 = .ok (.iload_n 2, 1) := by decide +kernel
theorem dX9_shortest_45 : decode cX9_shortest 45 = .ok (.if_icmp .ne 26, 3) := by decide +kernel
theorem dX9_shortest_48 : decode cX9_shortest 48 = .ok (.aload_n 0, 1) := by decide +kernel
theorem dX9_shortest_49 : decode cX9_shortest 49 = .ok (.getfield 13, 3) := by decide +kernel
theorem dX9_shortest_52 : decode cX9_shortest 52 = .ok (.iload 4, 2) := by decide +kernel
theorem dX9_shortest_54 : decode cX9_shortest 54 = .ok (.iaload, 1) := by decide +kernel
theorem dX9_shortest_55 : decode cX9_shortest 55 = .ok (.iload_n 1, 1) := by decide +kernel
theorem dX9_shortest_56 : decode cX9_shortest 56 = .ok (.if_icmp .ne 15, 3) := by decide +kernel
theorem dX9_shortest_59 : decode cX9_shortest 59 = .ok (.iload_n 3, 1) := by decide +kernel
theorem dX9_shortest_60 : decode cX9_shortest 60 = .ok (.aload_n 0, 1) := by decide +kernel
theorem dX9_shortest_61 : decode cX9_shortest 61 = .ok (.getfield 16, 3) := by decide +kernel
theorem dX9_shortest_64 : decode cX9_shortest 64 = .ok (.iload 4, 2) := by decide +kernel
theorem dX9_shortest_66 : decode cX9_shortest 66 = .ok (.iaload, 1) := by decide +kernel
theorem dX9_shortest_67 : decode cX9_shortest 67 = .ok (.invokestatic 137, 3) := by decide +kernel
theorem dX9_shortest_70 : decode cX9_shortest 70 = .ok (.istore_n 3, 1) := by decide +kernel
theorem dX9_shortest_71 : decode cX9_shortest 71 = .ok (.iinc 4 1, 3) := by decide +kernel
theorem dX9_shortest_74 : decode cX9_shortest 74 = .ok (.goto (-68), 3) := by decide +kernel
theorem dX9_shortest_77 : decode cX9_shortest 77 = .ok (.iload_n 3, 1) := by decide +kernel
theorem dX9_shortest_78 : decode cX9_shortest 78 = .ok (.ireturn, 1) := by decide +kernel
theorem dX9_goes_0 : decode cX9_goes 0 = .ok (.iload_n 1, 1) := by decide +kernel
theorem dX9_goes_1 : decode cX9_goes 1 = .ok (.istore_n 3, 1) := by decide +kernel
theorem dX9_goes_2 : decode cX9_goes 2 = .ok (.iload_n 3, 1) := by decide +kernel
theorem dX9_goes_3 : decode cX9_goes 3 = .ok (.iload_n 2, 1) := by decide +kernel
theorem dX9_goes_4 : decode cX9_goes 4 = .ok (.if_icmp .eq 64, 3) := by decide +kernel
theorem dX9_goes_7 : decode cX9_goes 7 = .ok (.iconst 0, 1) := by decide +kernel
theorem dX9_goes_8 : decode cX9_goes 8 = .ok (.istore 4, 2) := by decide +kernel
theorem dX9_goes_10 : decode cX9_goes 10 = .ok (.iload 4, 2) := by decide +kernel
theorem dX9_goes_12 : decode cX9_goes 12 = .ok (.iload_n 3, 1) := by decide +kernel
theorem dX9_goes_13 : decode cX9_goes 13 = .ok (.if_icmp .eq 37, 3) := by decide +kernel
theorem dX9_goes_16 : decode cX9_goes 16 = .ok (.aload_n 0, 1) := by decide +kernel
theorem dX9_goes_17 : decode cX9_goes 17 = .ok (.iload_n 3, 1) := by decide +kernel
theorem dX9_goes_18 : decode cX9_goes 18 = .ok (.iload 4, 2) := by decide +kernel
theorem dX9_goes_20 : decode cX9_goes 20 = .ok (.invokevirtual 196, 3) := by decide +kernel
theorem dX9_goes_23 : decode cX9_goes 23 = .ok (.aload_n 0, 1) := by decide +kernel
theorem dX9_goes_24 : decode cX9_goes 24 = .ok (.getfield 60, 3) := by decide +kernel
theorem dX9_goes_27 : decode cX9_goes 27 = .ok (.bipush 10, 2) := by decide +kernel
theorem dX9_goes_29 : decode cX9_goes 29 = .ok (.iload 4, 2) := by decide +kernel
theorem dX9_goes_31 : decode cX9_goes 31 = .ok (.imul, 1) := by decide +kernel
theorem dX9_goes_32 : decode cX9_goes 32 = .ok (.iload_n 2, 1) := by decide +kernel
theorem dX9_goes_33 : decode cX9_goes 33 = .ok (.iadd, 1) := by decide +kernel
theorem dX9_goes_34 : decode cX9_goes 34 = .ok (.iaload, 1) := by decide +kernel
theorem dX9_goes_35 : decode cX9_goes 35 = .ok (.iadd, 1) := by decide +kernel
theorem dX9_goes_36 : decode cX9_goes 36 = .ok (.aload_n 0, 1) := by decide +kernel
theorem dX9_goes_37 : decode cX9_goes 37 = .ok (.getfield 60, 3) := by decide +kernel
theorem dX9_goes_40 : decode cX9_goes 40 = .ok (.bipush 10, 2) := by decide +kernel
theorem dX9_goes_42 : decode cX9_goes 42 = .ok (.iload_n 3, 1) := by decide +kernel
theorem dX9_goes_43 : decode cX9_goes 43 = .ok (.imul, 1) := by decide +kernel
theorem dX9_goes_44 : decode cX9_goes 44 = .ok (.iload_n 2, 1) := by decide +kernel
theorem dX9_goes_45 : decode cX9_goes 45 = .ok (.iadd, 1) := by decide +kernel
theorem dX9_goes_46 : decode cX9_goes 46 = .ok (.iaload, 1) := by decide +kernel
theorem dX9_goes_47 : decode cX9_goes 47 = .ok (.if_icmp .eq 9, 3) := by decide +kernel
theorem dX9_goes_50 : decode cX9_goes 50 = .ok (.iinc 4 1, 3) := by decide +kernel
theorem dX9_goes_53 : decode cX9_goes 53 = .ok (.goto (-43), 3) := by decide +kernel
theorem dX9_goes_56 : decode cX9_goes 56 = .ok (.aload_n 0, 1) := by decide +kernel
theorem dX9_goes_57 : decode cX9_goes 57 = .ok (.iload 4, 2) := by decide +kernel
theorem dX9_goes_59 : decode cX9_goes 59 = .ok (.invokevirtual 199, 3) := by decide +kernel
theorem dX9_goes_62 : decode cX9_goes 62 = .ok (.iload 4, 2) := by decide +kernel
theorem dX9_goes_64 : decode cX9_goes 64 = .ok (.istore_n 3, 1) := by decide +kernel
theorem dX9_goes_65 : decode cX9_goes 65 = .ok (.goto (-63), 3) := by decide +kernel
theorem dX9_goes_68 : decode cX9_goes 68 = .ok (.return_, 1) := by decide +kernel
theorem dX9_findsSteps_0 : decode cX9_findsSteps 0 = .ok (.aload_n 0, 1) := by decide +kernel
theorem dX9_findsSteps_1 : decode cX9_findsSteps 1 = .ok (.iconst 0, 1) := by decide +kernel
theorem dX9_findsSteps_2 : decode cX9_findsSteps 2 = .ok (.putfield 193, 3) := by decide +kernel
theorem dX9_findsSteps_5 : decode cX9_findsSteps 5 = .ok (.aload_n 0, 1) := by decide +kernel
theorem dX9_findsSteps_6 : decode cX9_findsSteps 6 = .ok (.iconst 0, 1) := by decide +kernel
theorem dX9_findsSteps_7 : decode cX9_findsSteps 7 = .ok (.invokevirtual 199, 3) := by decide +kernel
theorem dX9_findsSteps_10 : decode cX9_findsSteps 10 = .ok (.iconst 0, 1) := by decide +kernel
theorem dX9_findsSteps_11 : decode cX9_findsSteps 11 = .ok (.istore_n 1, 1) := by decide +kernel
theorem dX9_findsSteps_12 : decode cX9_findsSteps 12 = .ok (.iconst 0, 1) := by decide +kernel
theorem dX9_findsSteps_13 : decode cX9_findsSteps 13 = .ok (.istore_n 2, 1) := by decide +kernel
theorem dX9_findsSteps_14 : decode cX9_findsSteps 14 = .ok (.iload_n 2, 1) := by decide +kernel
theorem dX9_findsSteps_15 : decode cX9_findsSteps 15 = .ok (.aload_n 0, 1) := by decide +kernel
theorem dX9_findsSteps_16 : decode cX9_findsSteps 16 = .ok (.getfield 149, 3) := by decide +kernel
theorem dX9_findsSteps_19 : decode cX9_findsSteps 19 = .ok (.if_icmp .ge 40, 3) := by decide +kernel
theorem dX9_findsSteps_22 : decode cX9_findsSteps 22 = .ok (.aload_n 0, 1) := by decide +kernel
theorem dX9_findsSteps_23 : decode cX9_findsSteps 23 = .ok (.iload_n 1, 1) := by decide +kernel
theorem dX9_findsSteps_24 : decode cX9_findsSteps 24 = .ok (.aload_n 0, 1) := by decide +kernel
theorem dX9_findsSteps_25 : decode cX9_findsSteps 25 = .ok (.aload_n 0, 1) := by decide +kernel
theorem dX9_findsSteps_26 : decode cX9_findsSteps 26 = .ok (.getfield 69, 3) := by decide +kernel
theorem dX9_findsSteps_29 : decode cX9_findsSteps 29 = .ok (.iload_n 2, 1) := by decide +kernel
theorem dX9_findsSteps_30 : decode cX9_findsSteps 30 = .ok (.iaload, 1) := by decide +kernel
theorem dX9_findsSteps_31 : decode cX9_findsSteps 31 = .ok (.invokevirtual 172, 3) := by decide +kernel
theorem dX9_findsSteps_34 : decode cX9_findsSteps 34 = .ok (.invokevirtual 202, 3) := by decide +kernel
theorem dX9_findsSteps_37 : decode cX9_findsSteps 37 = .ok (.aload_n 0, 1) := by decide +kernel
theorem dX9_findsSteps_38 : decode cX9_findsSteps 38 = .ok (.aload_n 0, 1) := by decide +kernel
theorem dX9_findsSteps_39 : decode cX9_findsSteps 39 = .ok (.getfield 69, 3) := by decide +kernel
theorem dX9_findsSteps_42 : decode cX9_findsSteps 42 = .ok (.iload_n 2, 1) := by decide +kernel
theorem dX9_findsSteps_43 : decode cX9_findsSteps 43 = .ok (.iaload, 1) := by decide +kernel
theorem dX9_findsSteps_44 : decode cX9_findsSteps 44 = .ok (.invokevirtual 175, 3) := by decide +kernel
theorem dX9_findsSteps_47 : decode cX9_findsSteps 47 = .ok (.istore_n 1, 1) := by decide +kernel
theorem dX9_findsSteps_48 : decode cX9_findsSteps 48 = .ok (.aload_n 0, 1) := by decide +kernel
theorem dX9_findsSteps_49 : decode cX9_findsSteps 49 = .ok (.iload_n 1, 1) := by decide +kernel
theorem dX9_findsSteps_50 : decode cX9_findsSteps 50 = .ok (.invokevirtual 199, 3) := by decide +kernel
theorem dX9_findsSteps_53 : decode cX9_findsSteps 53 = .ok (.iinc 2 1, 3) := by decide +kernel
theorem dX9_findsSteps_56 : decode cX9_findsSteps 56 = .ok (.goto (-42), 3) := by decide +kernel
theorem dX9_findsSteps_59 : decode cX9_findsSteps 59 = .ok (.aload_n 0, 1) := by decide +kernel
theorem dX9_findsSteps_60 : decode cX9_findsSteps 60 = .ok (.iload_n 1, 1) := by decide +kernel
theorem dX9_findsSteps_61 : decode cX9_findsSteps 61 = .ok (.iconst 0, 1) := by decide +kernel
theorem dX9_findsSteps_62 : decode cX9_findsSteps 62 = .ok (.invokevirtual 202, 3) := by decide +kernel
theorem dX9_findsSteps_65 : decode cX9_findsSteps 65 = .ok (.return_, 1) := by decide +kernel
theorem dX9_walkPlaces_0 : decode cX9_walkPlaces 0 = .ok (.aload_n 0, 1) := by decide +kernel
theorem dX9_walkPlaces_1 : decode cX9_walkPlaces 1 = .ok (.iload_n 1, 1) := by decide +kernel
theorem dX9_walkPlaces_2 : decode cX9_walkPlaces 2 = .ok (.invokevirtual 190, 3) := by decide +kernel
theorem dX9_walkPlaces_5 : decode cX9_walkPlaces 5 = .ok (.ifCond .eq 5, 3) := by decide +kernel
theorem dX9_walkPlaces_8 : decode cX9_walkPlaces 8 = .ok (.iconst 0, 1) := by decide +kernel
theorem dX9_walkPlaces_9 : decode cX9_walkPlaces 9 = .ok (.ireturn, 1) := by decide +kernel
theorem dX9_walkPlaces_10 : decode cX9_walkPlaces 10 = .ok (.aload_n 0, 1) := by decide +kernel
theorem dX9_walkPlaces_11 : decode cX9_walkPlaces 11 = .ok (.invokevirtual 205, 3) := by decide +kernel
theorem dX9_walkPlaces_14 : decode cX9_walkPlaces 14 = .ok (.aload_n 0, 1) := by decide +kernel
theorem dX9_walkPlaces_15 : decode cX9_walkPlaces 15 = .ok (.getfield 193, 3) := by decide +kernel
theorem dX9_walkPlaces_18 : decode cX9_walkPlaces 18 = .ok (.ireturn, 1) := by decide +kernel
theorem dX9_walkAt_0 : decode cX9_walkAt 0 = .ok (.aload_n 0, 1) := by decide +kernel
theorem dX9_walkAt_1 : decode cX9_walkAt 1 = .ok (.iload_n 1, 1) := by decide +kernel
theorem dX9_walkAt_2 : decode cX9_walkAt 2 = .ok (.invokevirtual 190, 3) := by decide +kernel
theorem dX9_walkAt_5 : decode cX9_walkAt 5 = .ok (.ifCond .eq 5, 3) := by decide +kernel
theorem dX9_walkAt_8 : decode cX9_walkAt 8 = .ok (.iconst 0, 1) := by decide +kernel
theorem dX9_walkAt_9 : decode cX9_walkAt 9 = .ok (.ireturn, 1) := by decide +kernel
theorem dX9_walkAt_10 : decode cX9_walkAt 10 = .ok (.aload_n 0, 1) := by decide +kernel
theorem dX9_walkAt_11 : decode cX9_walkAt 11 = .ok (.invokevirtual 205, 3) := by decide +kernel
theorem dX9_walkAt_14 : decode cX9_walkAt 14 = .ok (.iload_n 2, 1) := by decide +kernel
theorem dX9_walkAt_15 : decode cX9_walkAt 15 = .ok (.iconst 0, 1) := by decide +kernel
theorem dX9_walkAt_16 : decode cX9_walkAt 16 = .ok (.aload_n 0, 1) := by decide +kernel
theorem dX9_walkAt_17 : decode cX9_walkAt 17 = .ok (.getfield 193, 3) := by decide +kernel
theorem dX9_walkAt_20 : decode cX9_walkAt 20 = .ok (.iconst 1, 1) := by decide +kernel
theorem dX9_walkAt_21 : decode cX9_walkAt 21 = .ok (.isub, 1) := by decide +kernel
theorem dX9_walkAt_22 : decode cX9_walkAt 22 = .ok (.invokestatic 87, 3) := by decide +kernel
theorem dX9_walkAt_25 : decode cX9_walkAt 25 = .ok (.ifCond .eq 12, 3) := by decide +kernel
theorem dX9_walkAt_28 : decode cX9_walkAt 28 = .ok (.aload_n 0, 1) := by decide +kernel
theorem dX9_walkAt_29 : decode cX9_walkAt 29 = .ok (.getfield 78, 3) := by decide +kernel
theorem dX9_walkAt_32 : decode cX9_walkAt 32 = .ok (.iload_n 2, 1) := by decide +kernel
theorem dX9_walkAt_33 : decode cX9_walkAt 33 = .ok (.iaload, 1) := by decide +kernel
theorem dX9_walkAt_34 : decode cX9_walkAt 34 = .ok (.goto 8, 3) := by decide +kernel
theorem dX9_walkAt_37 : decode cX9_walkAt 37 = .ok (.aload_n 0, 1) := by decide +kernel
theorem dX9_walkAt_38 : decode cX9_walkAt 38 = .ok (.iconst 3, 1) := by decide +kernel
theorem dX9_walkAt_39 : decode cX9_walkAt 39 = .ok (.invokevirtual 100, 3) := by decide +kernel
theorem dX9_walkAt_42 : decode cX9_walkAt 42 = .ok (.ireturn, 1) := by decide +kernel
theorem dX9_timeOf_0 : decode cX9_timeOf 0 = .ok (.aload_n 0, 1) := by decide +kernel
theorem dX9_timeOf_1 : decode cX9_timeOf 1 = .ok (.getfield 184, 3) := by decide +kernel
theorem dX9_timeOf_4 : decode cX9_timeOf 4 = .ok (.iconst 2, 1) := by decide +kernel
theorem dX9_timeOf_5 : decode cX9_timeOf 5 = .ok (.aload_n 0, 1) := by decide +kernel
theorem dX9_timeOf_6 : decode cX9_timeOf 6 = .ok (.iload_n 1, 1) := by decide +kernel
theorem dX9_timeOf_7 : decode cX9_timeOf 7 = .ok (.invokevirtual 133, 3) := by decide +kernel
theorem dX9_timeOf_10 : decode cX9_timeOf 10 = .ok (.imul, 1) := by decide +kernel
theorem dX9_timeOf_11 : decode cX9_timeOf 11 = .ok (.iadd, 1) := by decide +kernel
theorem dX9_timeOf_12 : decode cX9_timeOf 12 = .ok (.istore_n 2, 1) := by decide +kernel
theorem dX9_timeOf_13 : decode cX9_timeOf 13 = .ok (.iconst 0, 1) := by decide +kernel
theorem dX9_timeOf_14 : decode cX9_timeOf 14 = .ok (.istore_n 3, 1) := by decide +kernel
theorem dX9_timeOf_15 : decode cX9_timeOf 15 = .ok (.iload_n 3, 1) := by decide +kernel
theorem dX9_timeOf_16 : decode cX9_timeOf 16 = .ok (.aload_n 0, 1) := by decide +kernel
theorem dX9_timeOf_17 : decode cX9_timeOf 17 = .ok (.getfield 91, 3) := by decide +kernel
theorem dX9_timeOf_20 : decode cX9_timeOf 20 = .ok (.if_icmp .ge 30, 3) := by decide +kernel
theorem dX9_timeOf_23 : decode cX9_timeOf 23 = .ok (.iload_n 2, 1) := by decide +kernel
theorem dX9_timeOf_24 : decode cX9_timeOf 24 = .ok (.aload_n 0, 1) := by decide +kernel
theorem dX9_timeOf_25 : decode cX9_timeOf 25 = .ok (.iload_n 3, 1) := by decide +kernel
theorem dX9_timeOf_26 : decode cX9_timeOf 26 = .ok (.iload_n 1, 1) := by decide +kernel
theorem dX9_timeOf_27 : decode cX9_timeOf 27 = .ok (.invokevirtual 129, 3) := by decide +kernel
theorem dX9_timeOf_30 : decode cX9_timeOf 30 = .ok (.ifCond .eq 11, 3) := by decide +kernel
theorem dX9_timeOf_33 : decode cX9_timeOf 33 = .ok (.aload_n 0, 1) := by decide +kernel
theorem dX9_timeOf_34 : decode cX9_timeOf 34 = .ok (.iload_n 3, 1) := by decide +kernel
theorem dX9_timeOf_35 : decode cX9_timeOf 35 = .ok (.invokevirtual 120, 3) := by decide +kernel
theorem dX9_timeOf_38 : decode cX9_timeOf 38 = .ok (.goto 4, 3) := by decide +kernel
theorem dX9_timeOf_41 : decode cX9_timeOf 41 = .ok (.iconst 0, 1) := by decide +kernel
theorem dX9_timeOf_42 : decode cX9_timeOf 42 = .ok (.iadd, 1) := by decide +kernel
theorem dX9_timeOf_43 : decode cX9_timeOf 43 = .ok (.istore_n 2, 1) := by decide +kernel
theorem dX9_timeOf_44 : decode cX9_timeOf 44 = .ok (.iinc 3 1, 3) := by decide +kernel
theorem dX9_timeOf_47 : decode cX9_timeOf 47 = .ok (.goto (-32), 3) := by decide +kernel
theorem dX9_timeOf_50 : decode cX9_timeOf 50 = .ok (.iload_n 2, 1) := by decide +kernel
theorem dX9_timeOf_51 : decode cX9_timeOf 51 = .ok (.ireturn, 1) := by decide +kernel
theorem dX9_walkTime_0 : decode cX9_walkTime 0 = .ok (.aload_n 0, 1) := by decide +kernel
theorem dX9_walkTime_1 : decode cX9_walkTime 1 = .ok (.iload_n 1, 1) := by decide +kernel
theorem dX9_walkTime_2 : decode cX9_walkTime 2 = .ok (.invokevirtual 190, 3) := by decide +kernel
theorem dX9_walkTime_5 : decode cX9_walkTime 5 = .ok (.ifCond .eq 7, 3) := by decide +kernel
theorem dX9_walkTime_8 : decode cX9_walkTime 8 = .ok (.iconst 0, 1) := by decide +kernel
theorem dX9_walkTime_9 : decode cX9_walkTime 9 = .ok (.goto 10, 3) := by decide +kernel
theorem dX9_walkTime_12 : decode cX9_walkTime 12 = .ok (.aload_n 0, 1) := by decide +kernel
theorem dX9_walkTime_13 : decode cX9_walkTime 13 = .ok (.iconst 1, 1) := by decide +kernel
theorem dX9_walkTime_14 : decode cX9_walkTime 14 = .ok (.iload_n 1, 1) := by decide +kernel
theorem dX9_walkTime_15 : decode cX9_walkTime 15 = .ok (.ishl, 1) := by decide +kernel
theorem dX9_walkTime_16 : decode cX9_walkTime 16 = .ok (.invokevirtual 208, 3) := by decide +kernel
theorem dX9_walkTime_19 : decode cX9_walkTime 19 = .ok (.ireturn, 1) := by decide +kernel
theorem dX9_isInTime_0 : decode cX9_isInTime 0 = .ok (.aload_n 0, 1) := by decide +kernel
theorem dX9_isInTime_1 : decode cX9_isInTime 1 = .ok (.iconst 0, 1) := by decide +kernel
theorem dX9_isInTime_2 : decode cX9_isInTime 2 = .ok (.putfield 81, 3) := by decide +kernel
theorem dX9_isInTime_5 : decode cX9_isInTime 5 = .ok (.aload_n 0, 1) := by decide +kernel
theorem dX9_isInTime_6 : decode cX9_isInTime 6 = .ok (.iload_n 1, 1) := by decide +kernel
theorem dX9_isInTime_7 : decode cX9_isInTime 7 = .ok (.invokevirtual 111, 3) := by decide +kernel
theorem dX9_isInTime_10 : decode cX9_isInTime 10 = .ok (.ifCond .ne 17, 3) := by decide +kernel
theorem dX9_isInTime_13 : decode cX9_isInTime 13 = .ok (.aload_n 0, 1) := by decide +kernel
theorem dX9_isInTime_14 : decode cX9_isInTime 14 = .ok (.iconst 1, 1) := by decide +kernel
theorem dX9_isInTime_15 : decode cX9_isInTime 15 = .ok (.invokevirtual 100, 3) := by decide +kernel
theorem dX9_isInTime_18 : decode cX9_isInTime 18 = .ok (.ifCond .le 7, 3) := by decide +kernel
theorem dX9_isInTime_21 : decode cX9_isInTime 21 = .ok (.iconst 1, 1) := by decide +kernel
theorem dX9_isInTime_22 : decode cX9_isInTime 22 = .ok (.goto 4, 3) := by decide +kernel
theorem dX9_isInTime_25 : decode cX9_isInTime 25 = .ok (.iconst 0, 1) := by decide +kernel
theorem dX9_isInTime_26 : decode cX9_isInTime 26 = .ok (.ireturn, 1) := by decide +kernel
theorem dX9_isInTime_27 : decode cX9_isInTime 27 = .ok (.aload_n 0, 1) := by decide +kernel
theorem dX9_isInTime_28 : decode cX9_isInTime 28 = .ok (.iconst 1, 1) := by decide +kernel
theorem dX9_isInTime_29 : decode cX9_isInTime 29 = .ok (.iload_n 1, 1) := by decide +kernel
theorem dX9_isInTime_30 : decode cX9_isInTime 30 = .ok (.ishl, 1) := by decide +kernel
theorem dX9_isInTime_31 : decode cX9_isInTime 31 = .ok (.invokevirtual 187, 3) := by decide +kernel
theorem dX9_isInTime_34 : decode cX9_isInTime 34 = .ok (.ifCond .eq 23, 3) := by decide +kernel
theorem dX9_isInTime_37 : decode cX9_isInTime 37 = .ok (.aload_n 0, 1) := by decide +kernel
theorem dX9_isInTime_38 : decode cX9_isInTime 38 = .ok (.iconst 1, 1) := by decide +kernel
theorem dX9_isInTime_39 : decode cX9_isInTime 39 = .ok (.iload_n 1, 1) := by decide +kernel
theorem dX9_isInTime_40 : decode cX9_isInTime 40 = .ok (.ishl, 1) := by decide +kernel
theorem dX9_isInTime_41 : decode cX9_isInTime 41 = .ok (.invokevirtual 208, 3) := by decide +kernel
theorem dX9_isInTime_44 : decode cX9_isInTime 44 = .ok (.aload_n 0, 1) := by decide +kernel
theorem dX9_isInTime_45 : decode cX9_isInTime 45 = .ok (.getfield 34, 3) := by decide +kernel
theorem dX9_isInTime_48 : decode cX9_isInTime 48 = .ok (.iload_n 1, 1) := by decide +kernel
theorem dX9_isInTime_49 : decode cX9_isInTime 49 = .ok (.iaload, 1) := by decide +kernel
theorem dX9_isInTime_50 : decode cX9_isInTime 50 = .ok (.if_icmp .gt 7, 3) := by decide +kernel
theorem dX9_isInTime_53 : decode cX9_isInTime 53 = .ok (.iconst 1, 1) := by decide +kernel
theorem dX9_isInTime_54 : decode cX9_isInTime 54 = .ok (.goto 4, 3) := by decide +kernel
theorem dX9_isInTime_57 : decode cX9_isInTime 57 = .ok (.iconst 0, 1) := by decide +kernel
theorem dX9_isInTime_58 : decode cX9_isInTime 58 = .ok (.ireturn, 1) := by decide +kernel
theorem dX9_passes_0 : decode cX9_passes 0 = .ok (.iload_n 1, 1) := by decide +kernel
theorem dX9_passes_1 : decode cX9_passes 1 = .ok (.iconst 2, 1) := by decide +kernel
theorem dX9_passes_2 : decode cX9_passes 2 = .ok (.idiv, 1) := by decide +kernel
theorem dX9_passes_3 : decode cX9_passes 3 = .ok (.aload_n 0, 1) := by decide +kernel
theorem dX9_passes_4 : decode cX9_passes 4 = .ok (.getfield 22, 3) := by decide +kernel
theorem dX9_passes_7 : decode cX9_passes 7 = .ok (.iload_n 2, 1) := by decide +kernel
theorem dX9_passes_8 : decode cX9_passes 8 = .ok (.iaload, 1) := by decide +kernel
theorem dX9_passes_9 : decode cX9_passes 9 = .ok (.if_icmp .ne 30, 3) := by decide +kernel
theorem dX9_passes_12 : decode cX9_passes 12 = .ok (.aload_n 0, 1) := by decide +kernel
theorem dX9_passes_13 : decode cX9_passes 13 = .ok (.getfield 46, 3) := by decide +kernel
theorem dX9_passes_16 : decode cX9_passes 16 = .ok (.iload_n 1, 1) := by decide +kernel
theorem dX9_passes_17 : decode cX9_passes 17 = .ok (.iconst 2, 1) := by decide +kernel
theorem dX9_passes_18 : decode cX9_passes 18 = .ok (.idiv, 1) := by decide +kernel
theorem dX9_passes_19 : decode cX9_passes 19 = .ok (.baload, 1) := by decide +kernel
theorem dX9_passes_20 : decode cX9_passes 20 = .ok (.ifCond .eq 15, 3) := by decide +kernel
theorem dX9_passes_23 : decode cX9_passes 23 = .ok (.iload_n 1, 1) := by decide +kernel
theorem dX9_passes_24 : decode cX9_passes 24 = .ok (.iconst 2, 1) := by decide +kernel
theorem dX9_passes_25 : decode cX9_passes 25 = .ok (.irem, 1) := by decide +kernel
theorem dX9_passes_26 : decode cX9_passes 26 = .ok (.aload_n 0, 1) := by decide +kernel
theorem dX9_passes_27 : decode cX9_passes 27 = .ok (.getfield 25, 3) := by decide +kernel
theorem dX9_passes_30 : decode cX9_passes 30 = .ok (.iload_n 2, 1) := by decide +kernel
theorem dX9_passes_31 : decode cX9_passes 31 = .ok (.iaload, 1) := by decide +kernel
theorem dX9_passes_32 : decode cX9_passes 32 = .ok (.if_icmp .ne 7, 3) := by decide +kernel
theorem dX9_passes_35 : decode cX9_passes 35 = .ok (.iconst 1, 1) := by decide +kernel
theorem dX9_passes_36 : decode cX9_passes 36 = .ok (.goto 4, 3) := by decide +kernel
theorem dX9_passes_39 : decode cX9_passes 39 = .ok (.iconst 0, 1) := by decide +kernel
theorem dX9_passes_40 : decode cX9_passes 40 = .ok (.ireturn, 1) := by decide +kernel
theorem dX9_walkTo_0 : decode cX9_walkTo 0 = .ok (.aload_n 0, 1) := by decide +kernel
theorem dX9_walkTo_1 : decode cX9_walkTo 1 = .ok (.iconst 0, 1) := by decide +kernel
theorem dX9_walkTo_2 : decode cX9_walkTo 2 = .ok (.putfield 81, 3) := by decide +kernel
theorem dX9_walkTo_5 : decode cX9_walkTo 5 = .ok (.aload_n 0, 1) := by decide +kernel
theorem dX9_walkTo_6 : decode cX9_walkTo 6 = .ok (.iload_n 1, 1) := by decide +kernel
theorem dX9_walkTo_7 : decode cX9_walkTo 7 = .ok (.invokevirtual 114, 3) := by decide +kernel
theorem dX9_walkTo_10 : decode cX9_walkTo 10 = .ok (.ifCond .ne 9, 3) := by decide +kernel
theorem dX9_walkTo_13 : decode cX9_walkTo 13 = .ok (.aload_n 0, 1) := by decide +kernel
theorem dX9_walkTo_14 : decode cX9_walkTo 14 = .ok (.iconst 1, 1) := by decide +kernel
theorem dX9_walkTo_15 : decode cX9_walkTo 15 = .ok (.invokevirtual 100, 3) := by decide +kernel
theorem dX9_walkTo_18 : decode cX9_walkTo 18 = .ok (.ireturn, 1) := by decide +kernel
theorem dX9_walkTo_19 : decode cX9_walkTo 19 = .ok (.aload_n 0, 1) := by decide +kernel
theorem dX9_walkTo_20 : decode cX9_walkTo 20 = .ok (.iload_n 1, 1) := by decide +kernel
theorem dX9_walkTo_21 : decode cX9_walkTo 21 = .ok (.invokevirtual 123, 3) := by decide +kernel
theorem dX9_walkTo_24 : decode cX9_walkTo 24 = .ok (.ifCond .eq 17, 3) := by decide +kernel
theorem dX9_walkTo_27 : decode cX9_walkTo 27 = .ok (.aload_n 0, 1) := by decide +kernel
theorem dX9_walkTo_28 : decode cX9_walkTo 28 = .ok (.getfield 19, 3) := by decide +kernel
theorem dX9_walkTo_31 : decode cX9_walkTo 31 = .ok (.aload_n 0, 1) := by decide +kernel
theorem dX9_walkTo_32 : decode cX9_walkTo 32 = .ok (.getfield 22, 3) := by decide +kernel
theorem dX9_walkTo_35 : decode cX9_walkTo 35 = .ok (.iload_n 1, 1) := by decide +kernel
theorem dX9_walkTo_36 : decode cX9_walkTo 36 = .ok (.iaload, 1) := by decide +kernel
theorem dX9_walkTo_37 : decode cX9_walkTo 37 = .ok (.iaload, 1) := by decide +kernel
theorem dX9_walkTo_38 : decode cX9_walkTo 38 = .ok (.ifCond .ge 9, 3) := by decide +kernel
theorem dX9_walkTo_41 : decode cX9_walkTo 41 = .ok (.aload_n 0, 1) := by decide +kernel
theorem dX9_walkTo_42 : decode cX9_walkTo 42 = .ok (.iconst 2, 1) := by decide +kernel
theorem dX9_walkTo_43 : decode cX9_walkTo 43 = .ok (.invokevirtual 100, 3) := by decide +kernel
theorem dX9_walkTo_46 : decode cX9_walkTo 46 = .ok (.ireturn, 1) := by decide +kernel
theorem dX9_walkTo_47 : decode cX9_walkTo 47 = .ok (.aload_n 0, 1) := by decide +kernel
theorem dX9_walkTo_48 : decode cX9_walkTo 48 = .ok (.iconst 1, 1) := by decide +kernel
theorem dX9_walkTo_49 : decode cX9_walkTo 49 = .ok (.aload_n 0, 1) := by decide +kernel
theorem dX9_walkTo_50 : decode cX9_walkTo 50 = .ok (.getfield 19, 3) := by decide +kernel
theorem dX9_walkTo_53 : decode cX9_walkTo 53 = .ok (.aload_n 0, 1) := by decide +kernel
theorem dX9_walkTo_54 : decode cX9_walkTo 54 = .ok (.getfield 22, 3) := by decide +kernel
theorem dX9_walkTo_57 : decode cX9_walkTo 57 = .ok (.iload_n 1, 1) := by decide +kernel
theorem dX9_walkTo_58 : decode cX9_walkTo 58 = .ok (.iaload, 1) := by decide +kernel
theorem dX9_walkTo_59 : decode cX9_walkTo 59 = .ok (.iaload, 1) := by decide +kernel
theorem dX9_walkTo_60 : decode cX9_walkTo 60 = .ok (.ishl, 1) := by decide +kernel
theorem dX9_walkTo_61 : decode cX9_walkTo 61 = .ok (.invokevirtual 187, 3) := by decide +kernel
theorem dX9_walkTo_64 : decode cX9_walkTo 64 = .ok (.ifCond .ne 9, 3) := by decide +kernel
theorem dX9_walkTo_67 : decode cX9_walkTo 67 = .ok (.aload_n 0, 1) := by decide +kernel
theorem dX9_walkTo_68 : decode cX9_walkTo 68 = .ok (.iconst 3, 1) := by decide +kernel
theorem dX9_walkTo_69 : decode cX9_walkTo 69 = .ok (.invokevirtual 100, 3) := by decide +kernel
theorem dX9_walkTo_72 : decode cX9_walkTo 72 = .ok (.ireturn, 1) := by decide +kernel
theorem dX9_walkTo_73 : decode cX9_walkTo 73 = .ok (.iconst 0, 1) := by decide +kernel
theorem dX9_walkTo_74 : decode cX9_walkTo 74 = .ok (.istore_n 2, 1) := by decide +kernel
theorem dX9_walkTo_75 : decode cX9_walkTo 75 = .ok (.iconst 0, 1) := by decide +kernel
theorem dX9_walkTo_76 : decode cX9_walkTo 76 = .ok (.istore_n 3, 1) := by decide +kernel
theorem dX9_walkTo_77 : decode cX9_walkTo 77 = .ok (.iconst 0, 1) := by decide +kernel
theorem dX9_walkTo_78 : decode cX9_walkTo 78 = .ok (.istore 4, 2) := by decide +kernel
theorem dX9_walkTo_80 : decode cX9_walkTo 80 = .ok (.aload_n 0, 1) := by decide +kernel
theorem dX9_walkTo_81 : decode cX9_walkTo 81 = .ok (.aload_n 0, 1) := by decide +kernel
theorem dX9_walkTo_82 : decode cX9_walkTo 82 = .ok (.getfield 69, 3) := by decide +kernel
theorem dX9_walkTo_85 : decode cX9_walkTo 85 = .ok (.iload 4, 2) := by decide +kernel
theorem dX9_walkTo_87 : decode cX9_walkTo 87 = .ok (.iaload, 1) := by decide +kernel
theorem dX9_walkTo_88 : decode cX9_walkTo 88 = .ok (.iload_n 1, 1) := by decide +kernel
theorem dX9_walkTo_89 : decode cX9_walkTo 89 = .ok (.invokevirtual 211, 3) := by decide +kernel
theorem dX9_walkTo_92 : decode cX9_walkTo 92 = .ok (.ifCond .ne 60, 3) := by decide +kernel
theorem dX9_walkTo_95 : decode cX9_walkTo 95 = .ok (.iload_n 2, 1) := by decide +kernel
theorem dX9_walkTo_96 : decode cX9_walkTo 96 = .ok (.aload_n 0, 1) := by decide +kernel
theorem dX9_walkTo_97 : decode cX9_walkTo 97 = .ok (.getfield 60, 3) := by decide +kernel
theorem dX9_walkTo_100 : decode cX9_walkTo 100 = .ok (.bipush 10, 2) := by decide +kernel
theorem dX9_walkTo_102 : decode cX9_walkTo 102 = .ok (.iload_n 3, 1) := by decide +kernel
theorem dX9_walkTo_103 : decode cX9_walkTo 103 = .ok (.imul, 1) := by decide +kernel
theorem dX9_walkTo_104 : decode cX9_walkTo 104 = .ok (.aload_n 0, 1) := by decide +kernel
theorem dX9_walkTo_105 : decode cX9_walkTo 105 = .ok (.aload_n 0, 1) := by decide +kernel
theorem dX9_walkTo_106 : decode cX9_walkTo 106 = .ok (.getfield 69, 3) := by decide +kernel
theorem dX9_walkTo_109 : decode cX9_walkTo 109 = .ok (.iload 4, 2) := by decide +kernel
theorem dX9_walkTo_111 : decode cX9_walkTo 111 = .ok (.iaload, 1) := by decide +kernel
theorem dX9_walkTo_112 : decode cX9_walkTo 112 = .ok (.invokevirtual 172, 3) := by decide +kernel
theorem dX9_walkTo_115 : decode cX9_walkTo 115 = .ok (.iadd, 1) := by decide +kernel
theorem dX9_walkTo_116 : decode cX9_walkTo 116 = .ok (.iaload, 1) := by decide +kernel
theorem dX9_walkTo_117 : decode cX9_walkTo 117 = .ok (.aload_n 0, 1) := by decide +kernel
theorem dX9_walkTo_118 : decode cX9_walkTo 118 = .ok (.getfield 16, 3) := by decide +kernel
theorem dX9_walkTo_121 : decode cX9_walkTo 121 = .ok (.aload_n 0, 1) := by decide +kernel
theorem dX9_walkTo_122 : decode cX9_walkTo 122 = .ok (.getfield 69, 3) := by decide +kernel
theorem dX9_walkTo_125 : decode cX9_walkTo 125 = .ok (.iload 4, 2) := by decide +kernel
theorem dX9_walkTo_127 : decode cX9_walkTo 127 = .ok (.iaload, 1) := by decide +kernel
theorem dX9_walkTo_128 : decode cX9_walkTo 128 = .ok (.iconst 2, 1) := by decide +kernel
theorem dX9_walkTo_129 : decode cX9_walkTo 129 = .ok (.idiv, 1) := by decide +kernel
theorem dX9_walkTo_130 : decode cX9_walkTo 130 = .ok (.iaload, 1) := by decide +kernel
theorem dX9_walkTo_131 : decode cX9_walkTo 131 = .ok (.iadd, 1) := by decide +kernel
theorem dX9_walkTo_132 : decode cX9_walkTo 132 = .ok (.iadd, 1) := by decide +kernel
theorem dX9_walkTo_133 : decode cX9_walkTo 133 = .ok (.istore_n 2, 1) := by decide +kernel
theorem dX9_walkTo_134 : decode cX9_walkTo 134 = .ok (.aload_n 0, 1) := by decide +kernel
theorem dX9_walkTo_135 : decode cX9_walkTo 135 = .ok (.aload_n 0, 1) := by decide +kernel
theorem dX9_walkTo_136 : decode cX9_walkTo 136 = .ok (.getfield 69, 3) := by decide +kernel
theorem dX9_walkTo_139 : decode cX9_walkTo 139 = .ok (.iload 4, 2) := by decide +kernel
theorem dX9_walkTo_141 : decode cX9_walkTo 141 = .ok (.iaload, 1) := by decide +kernel
theorem dX9_walkTo_142 : decode cX9_walkTo 142 = .ok (.invokevirtual 175, 3) := by decide +kernel
theorem dX9_walkTo_145 : decode cX9_walkTo 145 = .ok (.istore_n 3, 1) := by decide +kernel
theorem dX9_walkTo_146 : decode cX9_walkTo 146 = .ok (.iinc 4 1, 3) := by decide +kernel
theorem dX9_walkTo_149 : decode cX9_walkTo 149 = .ok (.goto (-69), 3) := by decide +kernel
theorem dX9_walkTo_152 : decode cX9_walkTo 152 = .ok (.aload_n 0, 1) := by decide +kernel
theorem dX9_walkTo_153 : decode cX9_walkTo 153 = .ok (.getfield 69, 3) := by decide +kernel
theorem dX9_walkTo_156 : decode cX9_walkTo 156 = .ok (.iload 4, 2) := by decide +kernel
theorem dX9_walkTo_158 : decode cX9_walkTo 158 = .ok (.iaload, 1) := by decide +kernel
theorem dX9_walkTo_159 : decode cX9_walkTo 159 = .ok (.iconst 2, 1) := by decide +kernel
theorem dX9_walkTo_160 : decode cX9_walkTo 160 = .ok (.irem, 1) := by decide +kernel
theorem dX9_walkTo_161 : decode cX9_walkTo 161 = .ok (.ifCond .ne 12, 3) := by decide +kernel
theorem dX9_walkTo_164 : decode cX9_walkTo 164 = .ok (.aload_n 0, 1) := by decide +kernel
theorem dX9_walkTo_165 : decode cX9_walkTo 165 = .ok (.getfield 28, 3) := by decide +kernel
theorem dX9_walkTo_168 : decode cX9_walkTo 168 = .ok (.iload_n 1, 1) := by decide +kernel
theorem dX9_walkTo_169 : decode cX9_walkTo 169 = .ok (.iaload, 1) := by decide +kernel
theorem dX9_walkTo_170 : decode cX9_walkTo 170 = .ok (.goto 24, 3) := by decide +kernel
theorem dX9_walkTo_173 : decode cX9_walkTo 173 = .ok (.aload_n 0, 1) := by decide +kernel
theorem dX9_walkTo_174 : decode cX9_walkTo 174 = .ok (.getfield 16, 3) := by decide +kernel
theorem dX9_walkTo_177 : decode cX9_walkTo 177 = .ok (.aload_n 0, 1) := by decide +kernel
theorem dX9_walkTo_178 : decode cX9_walkTo 178 = .ok (.getfield 69, 3) := by decide +kernel
theorem dX9_walkTo_181 : decode cX9_walkTo 181 = .ok (.iload 4, 2) := by decide +kernel
theorem dX9_walkTo_183 : decode cX9_walkTo 183 = .ok (.iaload, 1) := by decide +kernel
theorem dX9_walkTo_184 : decode cX9_walkTo 184 = .ok (.iconst 2, 1) := by decide +kernel
theorem dX9_walkTo_185 : decode cX9_walkTo 185 = .ok (.idiv, 1) := by decide +kernel
theorem dX9_walkTo_186 : decode cX9_walkTo 186 = .ok (.iaload, 1) := by decide +kernel
theorem dX9_walkTo_187 : decode cX9_walkTo 187 = .ok (.aload_n 0, 1) := by decide +kernel
theorem dX9_walkTo_188 : decode cX9_walkTo 188 = .ok (.getfield 28, 3) := by decide +kernel
theorem dX9_walkTo_191 : decode cX9_walkTo 191 = .ok (.iload_n 1, 1) := by decide +kernel
theorem dX9_walkTo_192 : decode cX9_walkTo 192 = .ok (.iaload, 1) := by decide +kernel
theorem dX9_walkTo_193 : decode cX9_walkTo 193 = .ok (.isub, 1) := by decide +kernel
theorem dX9_walkTo_194 : decode cX9_walkTo 194 = .ok (.istore 5, 2) := by decide +kernel
theorem dX9_walkTo_196 : decode cX9_walkTo 196 = .ok (.iload_n 2, 1) := by decide +kernel
theorem dX9_walkTo_197 : decode cX9_walkTo 197 = .ok (.aload_n 0, 1) := by decide +kernel
theorem dX9_walkTo_198 : decode cX9_walkTo 198 = .ok (.getfield 60, 3) := by decide +kernel
theorem dX9_walkTo_201 : decode cX9_walkTo 201 = .ok (.bipush 10, 2) := by decide +kernel
theorem dX9_walkTo_203 : decode cX9_walkTo 203 = .ok (.iload_n 3, 1) := by decide +kernel
theorem dX9_walkTo_204 : decode cX9_walkTo 204 = .ok (.imul, 1) := by decide +kernel
theorem dX9_walkTo_205 : decode cX9_walkTo 205 = .ok (.aload_n 0, 1) := by decide +kernel
theorem dX9_walkTo_206 : decode cX9_walkTo 206 = .ok (.aload_n 0, 1) := by decide +kernel
theorem dX9_walkTo_207 : decode cX9_walkTo 207 = .ok (.getfield 69, 3) := by decide +kernel
theorem dX9_walkTo_210 : decode cX9_walkTo 210 = .ok (.iload 4, 2) := by decide +kernel
theorem dX9_walkTo_212 : decode cX9_walkTo 212 = .ok (.iaload, 1) := by decide +kernel
theorem dX9_walkTo_213 : decode cX9_walkTo 213 = .ok (.invokevirtual 172, 3) := by decide +kernel
theorem dX9_walkTo_216 : decode cX9_walkTo 216 = .ok (.iadd, 1) := by decide +kernel
theorem dX9_walkTo_217 : decode cX9_walkTo 217 = .ok (.iaload, 1) := by decide +kernel
theorem dX9_walkTo_218 : decode cX9_walkTo 218 = .ok (.iadd, 1) := by decide +kernel
theorem dX9_walkTo_219 : decode cX9_walkTo 219 = .ok (.iload 5, 2) := by decide +kernel
theorem dX9_walkTo_221 : decode cX9_walkTo 221 = .ok (.iadd, 1) := by decide +kernel
theorem dX9_walkTo_222 : decode cX9_walkTo 222 = .ok (.ireturn, 1) := by decide +kernel
theorem dX9_deliver_0 : decode cX9_deliver 0 = .ok (.aload_n 0, 1) := by decide +kernel
theorem dX9_deliver_1 : decode cX9_deliver 1 = .ok (.iconst 0, 1) := by decide +kernel
theorem dX9_deliver_2 : decode cX9_deliver 2 = .ok (.putfield 81, 3) := by decide +kernel
theorem dX9_deliver_5 : decode cX9_deliver 5 = .ok (.aload_n 0, 1) := by decide +kernel
theorem dX9_deliver_6 : decode cX9_deliver 6 = .ok (.iload_n 1, 1) := by decide +kernel
theorem dX9_deliver_7 : decode cX9_deliver 7 = .ok (.invokevirtual 111, 3) := by decide +kernel
theorem dX9_deliver_10 : decode cX9_deliver 10 = .ok (.ifCond .ne 9, 3) := by decide +kernel
theorem dX9_deliver_13 : decode cX9_deliver 13 = .ok (.aload_n 0, 1) := by decide +kernel
theorem dX9_deliver_14 : decode cX9_deliver 14 = .ok (.iconst 1, 1) := by decide +kernel
theorem dX9_deliver_15 : decode cX9_deliver 15 = .ok (.invokevirtual 100, 3) := by decide +kernel
theorem dX9_deliver_18 : decode cX9_deliver 18 = .ok (.ireturn, 1) := by decide +kernel
theorem dX9_deliver_19 : decode cX9_deliver 19 = .ok (.iconst 1, 1) := by decide +kernel
theorem dX9_deliver_20 : decode cX9_deliver 20 = .ok (.iload_n 1, 1) := by decide +kernel
theorem dX9_deliver_21 : decode cX9_deliver 21 = .ok (.ishl, 1) := by decide +kernel
theorem dX9_deliver_22 : decode cX9_deliver 22 = .ok (.istore_n 2, 1) := by decide +kernel
theorem dX9_deliver_23 : decode cX9_deliver 23 = .ok (.aload_n 0, 1) := by decide +kernel
theorem dX9_deliver_24 : decode cX9_deliver 24 = .ok (.iload_n 2, 1) := by decide +kernel
theorem dX9_deliver_25 : decode cX9_deliver 25 = .ok (.invokevirtual 187, 3) := by decide +kernel
theorem dX9_deliver_28 : decode cX9_deliver 28 = .ok (.ifCond .eq 17, 3) := by decide +kernel
theorem dX9_deliver_31 : decode cX9_deliver 31 = .ok (.aload_n 0, 1) := by decide +kernel
theorem dX9_deliver_32 : decode cX9_deliver 32 = .ok (.iload_n 2, 1) := by decide +kernel
theorem dX9_deliver_33 : decode cX9_deliver 33 = .ok (.invokevirtual 208, 3) := by decide +kernel
theorem dX9_deliver_36 : decode cX9_deliver 36 = .ok (.aload_n 0, 1) := by decide +kernel
theorem dX9_deliver_37 : decode cX9_deliver 37 = .ok (.getfield 34, 3) := by decide +kernel
theorem dX9_deliver_40 : decode cX9_deliver 40 = .ok (.iload_n 1, 1) := by decide +kernel
theorem dX9_deliver_41 : decode cX9_deliver 41 = .ok (.iaload, 1) := by decide +kernel
theorem dX9_deliver_42 : decode cX9_deliver 42 = .ok (.if_icmp .le 9, 3) := by decide +kernel
theorem dX9_deliver_45 : decode cX9_deliver 45 = .ok (.aload_n 0, 1) := by decide +kernel
theorem dX9_deliver_46 : decode cX9_deliver 46 = .ok (.iconst 2, 1) := by decide +kernel
theorem dX9_deliver_47 : decode cX9_deliver 47 = .ok (.invokevirtual 100, 3) := by decide +kernel
theorem dX9_deliver_50 : decode cX9_deliver 50 = .ok (.ireturn, 1) := by decide +kernel
theorem dX9_deliver_51 : decode cX9_deliver 51 = .ok (.aload_n 0, 1) := by decide +kernel
theorem dX9_deliver_52 : decode cX9_deliver 52 = .ok (.iload_n 2, 1) := by decide +kernel
theorem dX9_deliver_53 : decode cX9_deliver 53 = .ok (.invokevirtual 133, 3) := by decide +kernel
theorem dX9_deliver_56 : decode cX9_deliver 56 = .ok (.istore_n 3, 1) := by decide +kernel
theorem dX9_deliver_57 : decode cX9_deliver 57 = .ok (.iconst 0, 1) := by decide +kernel
theorem dX9_deliver_58 : decode cX9_deliver 58 = .ok (.istore 4, 2) := by decide +kernel
theorem dX9_deliver_60 : decode cX9_deliver 60 = .ok (.iload 4, 2) := by decide +kernel
theorem dX9_deliver_62 : decode cX9_deliver 62 = .ok (.aload_n 0, 1) := by decide +kernel
theorem dX9_deliver_63 : decode cX9_deliver 63 = .ok (.getfield 97, 3) := by decide +kernel
theorem dX9_deliver_66 : decode cX9_deliver 66 = .ok (.if_icmp .ge 48, 3) := by decide +kernel
theorem dX9_deliver_69 : decode cX9_deliver 69 = .ok (.aload_n 0, 1) := by decide +kernel
theorem dX9_deliver_70 : decode cX9_deliver 70 = .ok (.getfield 50, 3) := by decide +kernel
theorem dX9_deliver_73 : decode cX9_deliver 73 = .ok (.iload 4, 2) := by decide +kernel
theorem dX9_deliver_75 : decode cX9_deliver 75 = .ok (.dup2, 1) := by decide +kernel
theorem dX9_deliver_76 : decode cX9_deliver 76 = .ok (.baload, 1) := by decide +kernel
theorem dX9_deliver_77 : decode cX9_deliver 77 = .ok (.aload_n 0, 1) := by decide +kernel
theorem dX9_deliver_78 : decode cX9_deliver 78 = .ok (.aload_n 0, 1) := by decide +kernel
theorem dX9_deliver_79 : decode cX9_deliver 79 = .ok (.getfield 37, 3) := by decide +kernel
theorem dX9_deliver_82 : decode cX9_deliver 82 = .ok (.iload 4, 2) := by decide +kernel
theorem dX9_deliver_84 : decode cX9_deliver 84 = .ok (.iaload, 1) := by decide +kernel
theorem dX9_deliver_85 : decode cX9_deliver 85 = .ok (.iload_n 2, 1) := by decide +kernel
theorem dX9_deliver_86 : decode cX9_deliver 86 = .ok (.invokevirtual 129, 3) := by decide +kernel
theorem dX9_deliver_89 : decode cX9_deliver 89 = .ok (.ifCond .eq 16, 3) := by decide +kernel
theorem dX9_deliver_92 : decode cX9_deliver 92 = .ok (.aload_n 0, 1) := by decide +kernel
theorem dX9_deliver_93 : decode cX9_deliver 93 = .ok (.iload 4, 2) := by decide +kernel
theorem dX9_deliver_95 : decode cX9_deliver 95 = .ok (.invokevirtual 117, 3) := by decide +kernel
theorem dX9_deliver_98 : decode cX9_deliver 98 = .ok (.ifCond .eq 7, 3) := by decide +kernel
theorem dX9_deliver_101 : decode cX9_deliver 101 = .ok (.iconst 1, 1) := by decide +kernel
theorem dX9_deliver_102 : decode cX9_deliver 102 = .ok (.goto 4, 3) := by decide +kernel
theorem dX9_deliver_105 : decode cX9_deliver 105 = .ok (.iconst 0, 1) := by decide +kernel
theorem dX9_deliver_106 : decode cX9_deliver 106 = .ok (.ior, 1) := by decide +kernel
theorem dX9_deliver_107 : decode cX9_deliver 107 = .ok (.bastore, 1) := by decide +kernel
theorem dX9_deliver_108 : decode cX9_deliver 108 = .ok (.iinc 4 1, 3) := by decide +kernel
theorem dX9_deliver_111 : decode cX9_deliver 111 = .ok (.goto (-51), 3) := by decide +kernel
theorem dX9_deliver_114 : decode cX9_deliver 114 = .ok (.iconst 0, 1) := by decide +kernel
theorem dX9_deliver_115 : decode cX9_deliver 115 = .ok (.istore 4, 2) := by decide +kernel
theorem dX9_deliver_117 : decode cX9_deliver 117 = .ok (.iload 4, 2) := by decide +kernel
theorem dX9_deliver_119 : decode cX9_deliver 119 = .ok (.aload_n 0, 1) := by decide +kernel
theorem dX9_deliver_120 : decode cX9_deliver 120 = .ok (.getfield 91, 3) := by decide +kernel
theorem dX9_deliver_123 : decode cX9_deliver 123 = .ok (.if_icmp .ge 37, 3) := by decide +kernel
theorem dX9_deliver_126 : decode cX9_deliver 126 = .ok (.aload_n 0, 1) := by decide +kernel
theorem dX9_deliver_127 : decode cX9_deliver 127 = .ok (.getfield 31, 3) := by decide +kernel
theorem dX9_deliver_130 : decode cX9_deliver 130 = .ok (.iload 4, 2) := by decide +kernel
theorem dX9_deliver_132 : decode cX9_deliver 132 = .ok (.aload_n 0, 1) := by decide +kernel
theorem dX9_deliver_133 : decode cX9_deliver 133 = .ok (.iload 4, 2) := by decide +kernel
theorem dX9_deliver_135 : decode cX9_deliver 135 = .ok (.iload_n 2, 1) := by decide +kernel
theorem dX9_deliver_136 : decode cX9_deliver 136 = .ok (.invokevirtual 129, 3) := by decide +kernel
theorem dX9_deliver_139 : decode cX9_deliver 139 = .ok (.ifCond .eq 7, 3) := by decide +kernel
theorem dX9_deliver_142 : decode cX9_deliver 142 = .ok (.iconst 0, 1) := by decide +kernel
theorem dX9_deliver_143 : decode cX9_deliver 143 = .ok (.goto 10, 3) := by decide +kernel
theorem dX9_deliver_146 : decode cX9_deliver 146 = .ok (.aload_n 0, 1) := by decide +kernel
theorem dX9_deliver_147 : decode cX9_deliver 147 = .ok (.getfield 31, 3) := by decide +kernel
theorem dX9_deliver_150 : decode cX9_deliver 150 = .ok (.iload 4, 2) := by decide +kernel
theorem dX9_deliver_152 : decode cX9_deliver 152 = .ok (.iaload, 1) := by decide +kernel
theorem dX9_deliver_153 : decode cX9_deliver 153 = .ok (.iastore, 1) := by decide +kernel
theorem dX9_deliver_154 : decode cX9_deliver 154 = .ok (.iinc 4 1, 3) := by decide +kernel
theorem dX9_deliver_157 : decode cX9_deliver 157 = .ok (.goto (-40), 3) := by decide +kernel
theorem dX9_deliver_160 : decode cX9_deliver 160 = .ok (.aload_n 0, 1) := by decide +kernel
theorem dX9_deliver_161 : decode cX9_deliver 161 = .ok (.dup, 1) := by decide +kernel
theorem dX9_deliver_162 : decode cX9_deliver 162 = .ok (.getfield 214, 3) := by decide +kernel
theorem dX9_deliver_165 : decode cX9_deliver 165 = .ok (.aload_n 0, 1) := by decide +kernel
theorem dX9_deliver_166 : decode cX9_deliver 166 = .ok (.getfield 184, 3) := by decide +kernel
theorem dX9_deliver_169 : decode cX9_deliver 169 = .ok (.i2l, 1) := by decide +kernel
theorem dX9_deliver_170 : decode cX9_deliver 170 = .ok (.ladd, 1) := by decide +kernel
theorem dX9_deliver_171 : decode cX9_deliver 171 = .ok (.putfield 214, 3) := by decide +kernel
theorem dX9_deliver_174 : decode cX9_deliver 174 = .ok (.iload_n 3, 1) := by decide +kernel
theorem dX9_deliver_175 : decode cX9_deliver 175 = .ok (.ireturn, 1) := by decide +kernel
theorem dX9_savingBy_0 : decode cX9_savingBy 0 = .ok (.aload_n 0, 1) := by decide +kernel
theorem dX9_savingBy_1 : decode cX9_savingBy 1 = .ok (.iconst 1, 1) := by decide +kernel
theorem dX9_savingBy_2 : decode cX9_savingBy 2 = .ok (.iload_n 1, 1) := by decide +kernel
theorem dX9_savingBy_3 : decode cX9_savingBy 3 = .ok (.ishl, 1) := by decide +kernel
theorem dX9_savingBy_4 : decode cX9_savingBy 4 = .ok (.invokevirtual 187, 3) := by decide +kernel
theorem dX9_savingBy_7 : decode cX9_savingBy 7 = .ok (.ifCond .ne 9, 3) := by decide +kernel
theorem dX9_savingBy_10 : decode cX9_savingBy 10 = .ok (.aload_n 0, 1) := by decide +kernel
theorem dX9_savingBy_11 : decode cX9_savingBy 11 = .ok (.iconst 3, 1) := by decide +kernel
theorem dX9_savingBy_12 : decode cX9_savingBy 12 = .ok (.invokevirtual 100, 3) := by decide +kernel
theorem dX9_savingBy_15 : decode cX9_savingBy 15 = .ok (.ireturn, 1) := by decide +kernel
theorem dX9_savingBy_16 : decode cX9_savingBy 16 = .ok (.aload_n 0, 1) := by decide +kernel
theorem dX9_savingBy_17 : decode cX9_savingBy 17 = .ok (.getfield 184, 3) := by decide +kernel
theorem dX9_savingBy_20 : decode cX9_savingBy 20 = .ok (.istore_n 3, 1) := by decide +kernel
theorem dX9_savingBy_21 : decode cX9_savingBy 21 = .ok (.aload_n 0, 1) := by decide +kernel
theorem dX9_savingBy_22 : decode cX9_savingBy 22 = .ok (.iconst 1, 1) := by decide +kernel
theorem dX9_savingBy_23 : decode cX9_savingBy 23 = .ok (.iload_n 2, 1) := by decide +kernel
theorem dX9_savingBy_24 : decode cX9_savingBy 24 = .ok (.ishl, 1) := by decide +kernel
theorem dX9_savingBy_25 : decode cX9_savingBy 25 = .ok (.invokevirtual 187, 3) := by decide +kernel
theorem dX9_savingBy_28 : decode cX9_savingBy 28 = .ok (.ifCond .ne 9, 3) := by decide +kernel
theorem dX9_savingBy_31 : decode cX9_savingBy 31 = .ok (.aload_n 0, 1) := by decide +kernel
theorem dX9_savingBy_32 : decode cX9_savingBy 32 = .ok (.iconst 3, 1) := by decide +kernel
theorem dX9_savingBy_33 : decode cX9_savingBy 33 = .ok (.invokevirtual 100, 3) := by decide +kernel
theorem dX9_savingBy_36 : decode cX9_savingBy 36 = .ok (.ireturn, 1) := by decide +kernel
theorem dX9_savingBy_37 : decode cX9_savingBy 37 = .ok (.iload_n 3, 1) := by decide +kernel
theorem dX9_savingBy_38 : decode cX9_savingBy 38 = .ok (.aload_n 0, 1) := by decide +kernel
theorem dX9_savingBy_39 : decode cX9_savingBy 39 = .ok (.getfield 184, 3) := by decide +kernel
theorem dX9_savingBy_42 : decode cX9_savingBy 42 = .ok (.iadd, 1) := by decide +kernel
theorem dX9_savingBy_43 : decode cX9_savingBy 43 = .ok (.istore_n 3, 1) := by decide +kernel
theorem dX9_savingBy_44 : decode cX9_savingBy 44 = .ok (.aload_n 0, 1) := by decide +kernel
theorem dX9_savingBy_45 : decode cX9_savingBy 45 = .ok (.iconst 1, 1) := by decide +kernel
theorem dX9_savingBy_46 : decode cX9_savingBy 46 = .ok (.iload_n 1, 1) := by decide +kernel
theorem dX9_savingBy_47 : decode cX9_savingBy 47 = .ok (.ishl, 1) := by decide +kernel
theorem dX9_savingBy_48 : decode cX9_savingBy 48 = .ok (.iconst 1, 1) := by decide +kernel
theorem dX9_savingBy_49 : decode cX9_savingBy 49 = .ok (.iload_n 2, 1) := by decide +kernel
theorem dX9_savingBy_50 : decode cX9_savingBy 50 = .ok (.ishl, 1) := by decide +kernel
theorem dX9_savingBy_51 : decode cX9_savingBy 51 = .ok (.ior, 1) := by decide +kernel
theorem dX9_savingBy_52 : decode cX9_savingBy 52 = .ok (.invokevirtual 187, 3) := by decide +kernel
theorem dX9_savingBy_55 : decode cX9_savingBy 55 = .ok (.ifCond .ne 9, 3) := by decide +kernel
theorem dX9_savingBy_58 : decode cX9_savingBy 58 = .ok (.aload_n 0, 1) := by decide +kernel
theorem dX9_savingBy_59 : decode cX9_savingBy 59 = .ok (.iconst 3, 1) := by decide +kernel
theorem dX9_savingBy_60 : decode cX9_savingBy 60 = .ok (.invokevirtual 100, 3) := by decide +kernel
theorem dX9_savingBy_63 : decode cX9_savingBy 63 = .ok (.ireturn, 1) := by decide +kernel
theorem dX9_savingBy_64 : decode cX9_savingBy 64 = .ok (.iload_n 3, 1) := by decide +kernel
theorem dX9_savingBy_65 : decode cX9_savingBy 65 = .ok (.aload_n 0, 1) := by decide +kernel
theorem dX9_savingBy_66 : decode cX9_savingBy 66 = .ok (.getfield 184, 3) := by decide +kernel
theorem dX9_savingBy_69 : decode cX9_savingBy 69 = .ok (.isub, 1) := by decide +kernel
theorem dX9_savingBy_70 : decode cX9_savingBy 70 = .ok (.ireturn, 1) := by decide +kernel
theorem dX9_saving_0 : decode cX9_saving 0 = .ok (.aload_n 0, 1) := by decide +kernel
theorem dX9_saving_1 : decode cX9_saving 1 = .ok (.iconst 0, 1) := by decide +kernel
theorem dX9_saving_2 : decode cX9_saving 2 = .ok (.putfield 81, 3) := by decide +kernel
theorem dX9_saving_5 : decode cX9_saving 5 = .ok (.aload_n 0, 1) := by decide +kernel
theorem dX9_saving_6 : decode cX9_saving 6 = .ok (.iload_n 1, 1) := by decide +kernel
theorem dX9_saving_7 : decode cX9_saving 7 = .ok (.invokevirtual 111, 3) := by decide +kernel
theorem dX9_saving_10 : decode cX9_saving 10 = .ok (.ifCond .eq 11, 3) := by decide +kernel
theorem dX9_saving_13 : decode cX9_saving 13 = .ok (.aload_n 0, 1) := by decide +kernel
theorem dX9_saving_14 : decode cX9_saving 14 = .ok (.iload_n 2, 1) := by decide +kernel
theorem dX9_saving_15 : decode cX9_saving 15 = .ok (.invokevirtual 111, 3) := by decide +kernel
theorem dX9_saving_18 : decode cX9_saving 18 = .ok (.ifCond .ne 9, 3) := by decide +kernel
theorem dX9_saving_21 : decode cX9_saving 21 = .ok (.aload_n 0, 1) := by decide +kernel
theorem dX9_saving_22 : decode cX9_saving 22 = .ok (.iconst 1, 1) := by decide +kernel
theorem dX9_saving_23 : decode cX9_saving 23 = .ok (.invokevirtual 100, 3) := by decide +kernel
theorem dX9_saving_26 : decode cX9_saving 26 = .ok (.ireturn, 1) := by decide +kernel
theorem dX9_saving_27 : decode cX9_saving 27 = .ok (.iload_n 1, 1) := by decide +kernel
theorem dX9_saving_28 : decode cX9_saving 28 = .ok (.iload_n 2, 1) := by decide +kernel
theorem dX9_saving_29 : decode cX9_saving 29 = .ok (.if_icmp .ne 11, 3) := by decide +kernel
theorem dX9_saving_32 : decode cX9_saving 32 = .ok (.aload_n 0, 1) := by decide +kernel
theorem dX9_saving_33 : decode cX9_saving 33 = .ok (.iconst 2, 1) := by decide +kernel
theorem dX9_saving_34 : decode cX9_saving 34 = .ok (.invokevirtual 100, 3) := by decide +kernel
theorem dX9_saving_37 : decode cX9_saving 37 = .ok (.goto 9, 3) := by decide +kernel
theorem dX9_saving_40 : decode cX9_saving 40 = .ok (.aload_n 0, 1) := by decide +kernel
theorem dX9_saving_41 : decode cX9_saving 41 = .ok (.iload_n 1, 1) := by decide +kernel
theorem dX9_saving_42 : decode cX9_saving 42 = .ok (.iload_n 2, 1) := by decide +kernel
theorem dX9_saving_43 : decode cX9_saving 43 = .ok (.invokevirtual 218, 3) := by decide +kernel
theorem dX9_saving_46 : decode cX9_saving 46 = .ok (.ireturn, 1) := by decide +kernel
theorem dX9_mergeInto_0 : decode cX9_mergeInto 0 = .ok (.aload_n 0, 1) := by decide +kernel
theorem dX9_mergeInto_1 : decode cX9_mergeInto 1 = .ok (.iload_n 1, 1) := by decide +kernel
theorem dX9_mergeInto_2 : decode cX9_mergeInto 2 = .ok (.iload_n 2, 1) := by decide +kernel
theorem dX9_mergeInto_3 : decode cX9_mergeInto 3 = .ok (.invokevirtual 221, 3) := by decide +kernel
theorem dX9_mergeInto_6 : decode cX9_mergeInto 6 = .ok (.istore_n 3, 1) := by decide +kernel
theorem dX9_mergeInto_7 : decode cX9_mergeInto 7 = .ok (.aload_n 0, 1) := by decide +kernel
theorem dX9_mergeInto_8 : decode cX9_mergeInto 8 = .ok (.getfield 81, 3) := by decide +kernel
theorem dX9_mergeInto_11 : decode cX9_mergeInto 11 = .ok (.ifCond .le 5, 3) := by decide +kernel
theorem dX9_mergeInto_14 : decode cX9_mergeInto 14 = .ok (.iconst 0, 1) := by decide +kernel
theorem dX9_mergeInto_15 : decode cX9_mergeInto 15 = .ok (.ireturn, 1) := by decide +kernel
theorem dX9_mergeInto_16 : decode cX9_mergeInto 16 = .ok (.aload_n 0, 1) := by decide +kernel
theorem dX9_mergeInto_17 : decode cX9_mergeInto 17 = .ok (.iconst 1, 1) := by decide +kernel
theorem dX9_mergeInto_18 : decode cX9_mergeInto 18 = .ok (.iload_n 1, 1) := by decide +kernel
theorem dX9_mergeInto_19 : decode cX9_mergeInto 19 = .ok (.ishl, 1) := by decide +kernel
theorem dX9_mergeInto_20 : decode cX9_mergeInto 20 = .ok (.iconst 1, 1) := by decide +kernel
theorem dX9_mergeInto_21 : decode cX9_mergeInto 21 = .ok (.iload_n 2, 1) := by decide +kernel
theorem dX9_mergeInto_22 : decode cX9_mergeInto 22 = .ok (.ishl, 1) := by decide +kernel
theorem dX9_mergeInto_23 : decode cX9_mergeInto 23 = .ok (.ior, 1) := by decide +kernel
theorem dX9_mergeInto_24 : decode cX9_mergeInto 24 = .ok (.invokevirtual 208, 3) := by decide +kernel
theorem dX9_mergeInto_27 : decode cX9_mergeInto 27 = .ok (.aload_n 0, 1) := by decide +kernel
theorem dX9_mergeInto_28 : decode cX9_mergeInto 28 = .ok (.getfield 34, 3) := by decide +kernel
theorem dX9_mergeInto_31 : decode cX9_mergeInto 31 = .ok (.iload_n 1, 1) := by decide +kernel
theorem dX9_mergeInto_32 : decode cX9_mergeInto 32 = .ok (.iaload, 1) := by decide +kernel
theorem dX9_mergeInto_33 : decode cX9_mergeInto 33 = .ok (.if_icmp .le 9, 3) := by decide +kernel
theorem dX9_mergeInto_36 : decode cX9_mergeInto 36 = .ok (.aload_n 0, 1) := by decide +kernel
theorem dX9_mergeInto_37 : decode cX9_mergeInto 37 = .ok (.iconst 3, 1) := by decide +kernel
theorem dX9_mergeInto_38 : decode cX9_mergeInto 38 = .ok (.invokevirtual 100, 3) := by decide +kernel
theorem dX9_mergeInto_41 : decode cX9_mergeInto 41 = .ok (.ireturn, 1) := by decide +kernel
theorem dX9_mergeInto_42 : decode cX9_mergeInto 42 = .ok (.iconst 0, 1) := by decide +kernel
theorem dX9_mergeInto_43 : decode cX9_mergeInto 43 = .ok (.istore 4, 2) := by decide +kernel
theorem dX9_mergeInto_45 : decode cX9_mergeInto 45 = .ok (.iload 4, 2) := by decide +kernel
theorem dX9_mergeInto_47 : decode cX9_mergeInto 47 = .ok (.aload_n 0, 1) := by decide +kernel
theorem dX9_mergeInto_48 : decode cX9_mergeInto 48 = .ok (.getfield 84, 3) := by decide +kernel
theorem dX9_mergeInto_51 : decode cX9_mergeInto 51 = .ok (.if_icmp .ge 38, 3) := by decide +kernel
theorem dX9_mergeInto_54 : decode cX9_mergeInto 54 = .ok (.aload_n 0, 1) := by decide +kernel
theorem dX9_mergeInto_55 : decode cX9_mergeInto 55 = .ok (.getfield 19, 3) := by decide +kernel
theorem dX9_mergeInto_58 : decode cX9_mergeInto 58 = .ok (.iload 4, 2) := by decide +kernel
theorem dX9_mergeInto_60 : decode cX9_mergeInto 60 = .ok (.aload_n 0, 1) := by decide +kernel
theorem dX9_mergeInto_61 : decode cX9_mergeInto 61 = .ok (.getfield 19, 3) := by decide +kernel
theorem dX9_mergeInto_64 : decode cX9_mergeInto 64 = .ok (.iload 4, 2) := by decide +kernel
theorem dX9_mergeInto_66 : decode cX9_mergeInto 66 = .ok (.iaload, 1) := by decide +kernel
theorem dX9_mergeInto_67 : decode cX9_mergeInto 67 = .ok (.iload_n 2, 1) := by decide +kernel
theorem dX9_mergeInto_68 : decode cX9_mergeInto 68 = .ok (.if_icmp .ne 7, 3) := by decide +kernel
theorem dX9_mergeInto_71 : decode cX9_mergeInto 71 = .ok (.iload_n 1, 1) := by decide +kernel
theorem dX9_mergeInto_72 : decode cX9_mergeInto 72 = .ok (.goto 10, 3) := by decide +kernel
theorem dX9_mergeInto_75 : decode cX9_mergeInto 75 = .ok (.aload_n 0, 1) := by decide +kernel
theorem dX9_mergeInto_76 : decode cX9_mergeInto 76 = .ok (.getfield 19, 3) := by decide +kernel
theorem dX9_mergeInto_79 : decode cX9_mergeInto 79 = .ok (.iload 4, 2) := by decide +kernel
theorem dX9_mergeInto_81 : decode cX9_mergeInto 81 = .ok (.iaload, 1) := by decide +kernel
theorem dX9_mergeInto_82 : decode cX9_mergeInto 82 = .ok (.iastore, 1) := by decide +kernel
theorem dX9_mergeInto_83 : decode cX9_mergeInto 83 = .ok (.iinc 4 1, 3) := by decide +kernel
theorem dX9_mergeInto_86 : decode cX9_mergeInto 86 = .ok (.goto (-41), 3) := by decide +kernel
theorem dX9_mergeInto_89 : decode cX9_mergeInto 89 = .ok (.iload_n 3, 1) := by decide +kernel
theorem dX9_mergeInto_90 : decode cX9_mergeInto 90 = .ok (.ireturn, 1) := by decide +kernel
theorem dX9_bestMerge_0 : decode cX9_bestMerge 0 = .ok (.iconst (-1), 1) := by decide +kernel
theorem dX9_bestMerge_1 : decode cX9_bestMerge 1 = .ok (.istore_n 1, 1) := by decide +kernel
theorem dX9_bestMerge_2 : decode cX9_bestMerge 2 = .ok (.iconst 0, 1) := by decide +kernel
theorem dX9_bestMerge_3 : decode cX9_bestMerge 3 = .ok (.istore_n 2, 1) := by decide +kernel
theorem dX9_bestMerge_4 : decode cX9_bestMerge 4 = .ok (.iconst 0, 1) := by decide +kernel
theorem dX9_bestMerge_5 : decode cX9_bestMerge 5 = .ok (.istore_n 3, 1) := by decide +kernel
theorem dX9_bestMerge_6 : decode cX9_bestMerge 6 = .ok (.iload_n 3, 1) := by decide +kernel
theorem dX9_bestMerge_7 : decode cX9_bestMerge 7 = .ok (.aload_n 0, 1) := by decide +kernel
theorem dX9_bestMerge_8 : decode cX9_bestMerge 8 = .ok (.getfield 94, 3) := by decide +kernel
theorem dX9_bestMerge_11 : decode cX9_bestMerge 11 = .ok (.if_icmp .ge 83, 3) := by decide +kernel
theorem dX9_bestMerge_14 : decode cX9_bestMerge 14 = .ok (.iconst 0, 1) := by decide +kernel
theorem dX9_bestMerge_15 : decode cX9_bestMerge 15 = .ok (.istore 4, 2) := by decide +kernel
theorem dX9_bestMerge_17 : decode cX9_bestMerge 17 = .ok (.iload 4, 2) := by decide +kernel
theorem dX9_bestMerge_19 : decode cX9_bestMerge 19 = .ok (.aload_n 0, 1) := by decide +kernel
theorem dX9_bestMerge_20 : decode cX9_bestMerge 20 = .ok (.getfield 94, 3) := by decide +kernel
theorem dX9_bestMerge_23 : decode cX9_bestMerge 23 = .ok (.if_icmp .ge 65, 3) := by decide +kernel
theorem dX9_bestMerge_26 : decode cX9_bestMerge 26 = .ok (.aload_n 0, 1) := by decide +kernel
theorem dX9_bestMerge_27 : decode cX9_bestMerge 27 = .ok (.iload_n 3, 1) := by decide +kernel
theorem dX9_bestMerge_28 : decode cX9_bestMerge 28 = .ok (.iload 4, 2) := by decide +kernel
theorem dX9_bestMerge_30 : decode cX9_bestMerge 30 = .ok (.invokevirtual 221, 3) := by decide +kernel
theorem dX9_bestMerge_33 : decode cX9_bestMerge 33 = .ok (.istore 5, 2) := by decide +kernel
theorem dX9_bestMerge_35 : decode cX9_bestMerge 35 = .ok (.aload_n 0, 1) := by decide +kernel
theorem dX9_bestMerge_36 : decode cX9_bestMerge 36 = .ok (.getfield 81, 3) := by decide +kernel
theorem dX9_bestMerge_39 : decode cX9_bestMerge 39 = .ok (.ifCond .gt 43, 3) := by decide +kernel
theorem dX9_bestMerge_42 : decode cX9_bestMerge 42 = .ok (.iload 5, 2) := by decide +kernel
theorem dX9_bestMerge_44 : decode cX9_bestMerge 44 = .ok (.iload_n 2, 1) := by decide +kernel
theorem dX9_bestMerge_45 : decode cX9_bestMerge 45 = .ok (.if_icmp .le 37, 3) := by decide +kernel
theorem dX9_bestMerge_48 : decode cX9_bestMerge 48 = .ok (.aload_n 0, 1) := by decide +kernel
theorem dX9_bestMerge_49 : decode cX9_bestMerge 49 = .ok (.iconst 1, 1) := by decide +kernel
theorem dX9_bestMerge_50 : decode cX9_bestMerge 50 = .ok (.iload_n 3, 1) := by decide +kernel
theorem dX9_bestMerge_51 : decode cX9_bestMerge 51 = .ok (.ishl, 1) := by decide +kernel
theorem dX9_bestMerge_52 : decode cX9_bestMerge 52 = .ok (.iconst 1, 1) := by decide +kernel
theorem dX9_bestMerge_53 : decode cX9_bestMerge 53 = .ok (.iload 4, 2) := by decide +kernel
theorem dX9_bestMerge_55 : decode cX9_bestMerge 55 = .ok (.ishl, 1) := by decide +kernel
theorem dX9_bestMerge_56 : decode cX9_bestMerge 56 = .ok (.ior, 1) := by decide +kernel
theorem dX9_bestMerge_57 : decode cX9_bestMerge 57 = .ok (.invokevirtual 208, 3) := by decide +kernel
theorem dX9_bestMerge_60 : decode cX9_bestMerge 60 = .ok (.aload_n 0, 1) := by decide +kernel
theorem dX9_bestMerge_61 : decode cX9_bestMerge 61 = .ok (.getfield 34, 3) := by decide +kernel
theorem dX9_bestMerge_64 : decode cX9_bestMerge 64 = .ok (.iload_n 3, 1) := by decide +kernel
theorem dX9_bestMerge_65 : decode cX9_bestMerge 65 = .ok (.iaload, 1) := by decide +kernel
theorem dX9_bestMerge_66 : decode cX9_bestMerge 66 = .ok (.if_icmp .le 6, 3) := by decide +kernel
theorem dX9_bestMerge_69 : decode cX9_bestMerge 69 = .ok (.goto 13, 3) := by decide +kernel
theorem dX9_bestMerge_72 : decode cX9_bestMerge 72 = .ok (.iload 5, 2) := by decide +kernel
theorem dX9_bestMerge_74 : decode cX9_bestMerge 74 = .ok (.istore_n 2, 1) := by decide +kernel
theorem dX9_bestMerge_75 : decode cX9_bestMerge 75 = .ok (.iconst 4, 1) := by decide +kernel
theorem dX9_bestMerge_76 : decode cX9_bestMerge 76 = .ok (.iload_n 3, 1) := by decide +kernel
theorem dX9_bestMerge_77 : decode cX9_bestMerge 77 = .ok (.imul, 1) := by decide +kernel
theorem dX9_bestMerge_78 : decode cX9_bestMerge 78 = .ok (.iload 4, 2) := by decide +kernel
theorem dX9_bestMerge_80 : decode cX9_bestMerge 80 = .ok (.iadd, 1) := by decide +kernel
theorem dX9_bestMerge_81 : decode cX9_bestMerge 81 = .ok (.istore_n 1, 1) := by decide +kernel
theorem dX9_bestMerge_82 : decode cX9_bestMerge 82 = .ok (.iinc 4 1, 3) := by decide +kernel
theorem dX9_bestMerge_85 : decode cX9_bestMerge 85 = .ok (.goto (-68), 3) := by decide +kernel
theorem dX9_bestMerge_88 : decode cX9_bestMerge 88 = .ok (.iinc 3 1, 3) := by decide +kernel
theorem dX9_bestMerge_91 : decode cX9_bestMerge 91 = .ok (.goto (-85), 3) := by decide +kernel
theorem dX9_bestMerge_94 : decode cX9_bestMerge 94 = .ok (.aload_n 0, 1) := by decide +kernel
theorem dX9_bestMerge_95 : decode cX9_bestMerge 95 = .ok (.iconst 0, 1) := by decide +kernel
theorem dX9_bestMerge_96 : decode cX9_bestMerge 96 = .ok (.putfield 81, 3) := by decide +kernel
theorem dX9_bestMerge_99 : decode cX9_bestMerge 99 = .ok (.iload_n 1, 1) := by decide +kernel
theorem dX9_bestMerge_100 : decode cX9_bestMerge 100 = .ok (.ifCond .ge 11, 3) := by decide +kernel
theorem dX9_bestMerge_103 : decode cX9_bestMerge 103 = .ok (.aload_n 0, 1) := by decide +kernel
theorem dX9_bestMerge_104 : decode cX9_bestMerge 104 = .ok (.iconst 1, 1) := by decide +kernel
theorem dX9_bestMerge_105 : decode cX9_bestMerge 105 = .ok (.invokevirtual 100, 3) := by decide +kernel
theorem dX9_bestMerge_108 : decode cX9_bestMerge 108 = .ok (.goto 4, 3) := by decide +kernel
theorem dX9_bestMerge_111 : decode cX9_bestMerge 111 = .ok (.iload_n 1, 1) := by decide +kernel
theorem dX9_bestMerge_112 : decode cX9_bestMerge 112 = .ok (.ireturn, 1) := by decide +kernel
theorem dX9_parcelState_0 : decode cX9_parcelState 0 = .ok (.aload_n 0, 1) := by decide +kernel
theorem dX9_parcelState_1 : decode cX9_parcelState 1 = .ok (.iconst 0, 1) := by decide +kernel
theorem dX9_parcelState_2 : decode cX9_parcelState 2 = .ok (.putfield 81, 3) := by decide +kernel
theorem dX9_parcelState_5 : decode cX9_parcelState 5 = .ok (.aload_n 0, 1) := by decide +kernel
theorem dX9_parcelState_6 : decode cX9_parcelState 6 = .ok (.iload_n 1, 1) := by decide +kernel
theorem dX9_parcelState_7 : decode cX9_parcelState 7 = .ok (.invokevirtual 224, 3) := by decide +kernel
theorem dX9_parcelState_10 : decode cX9_parcelState 10 = .ok (.ifCond .ne 10, 3) := by decide +kernel
theorem dX9_parcelState_13 : decode cX9_parcelState 13 = .ok (.aload_n 0, 1) := by decide +kernel
theorem dX9_parcelState_14 : decode cX9_parcelState 14 = .ok (.iconst 1, 1) := by decide +kernel
theorem dX9_parcelState_15 : decode cX9_parcelState 15 = .ok (.invokevirtual 100, 3) := by decide +kernel
theorem dX9_parcelState_18 : decode cX9_parcelState 18 = .ok (.i2c, 1) := by decide +kernel
theorem dX9_parcelState_19 : decode cX9_parcelState 19 = .ok (.ireturn, 1) := by decide +kernel
theorem dX9_parcelState_20 : decode cX9_parcelState 20 = .ok (.aload_n 0, 1) := by decide +kernel
theorem dX9_parcelState_21 : decode cX9_parcelState 21 = .ok (.getfield 50, 3) := by decide +kernel
theorem dX9_parcelState_24 : decode cX9_parcelState 24 = .ok (.iload_n 1, 1) := by decide +kernel
theorem dX9_parcelState_25 : decode cX9_parcelState 25 = .ok (.baload, 1) := by decide +kernel
theorem dX9_parcelState_26 : decode cX9_parcelState 26 = .ok (.ifCond .eq 8, 3) := by decide +kernel
theorem dX9_parcelState_29 : decode cX9_parcelState 29 = .ok (.bipush 100, 2) := by decide +kernel
theorem dX9_parcelState_31 : decode cX9_parcelState 31 = .ok (.goto 5, 3) := by decide +kernel
theorem dX9_parcelState_34 : decode cX9_parcelState 34 = .ok (.bipush 119, 2) := by decide +kernel
theorem dX9_parcelState_36 : decode cX9_parcelState 36 = .ok (.ireturn, 1) := by decide +kernel
theorem dX9_isHeavy_0 : decode cX9_isHeavy 0 = .ok (.aload_n 0, 1) := by decide +kernel
theorem dX9_isHeavy_1 : decode cX9_isHeavy 1 = .ok (.iconst 0, 1) := by decide +kernel
theorem dX9_isHeavy_2 : decode cX9_isHeavy 2 = .ok (.putfield 81, 3) := by decide +kernel
theorem dX9_isHeavy_5 : decode cX9_isHeavy 5 = .ok (.aload_n 0, 1) := by decide +kernel
theorem dX9_isHeavy_6 : decode cX9_isHeavy 6 = .ok (.iload_n 1, 1) := by decide +kernel
theorem dX9_isHeavy_7 : decode cX9_isHeavy 7 = .ok (.invokevirtual 224, 3) := by decide +kernel
theorem dX9_isHeavy_10 : decode cX9_isHeavy 10 = .ok (.ifCond .eq 24, 3) := by decide +kernel
theorem dX9_isHeavy_13 : decode cX9_isHeavy 13 = .ok (.aload_n 0, 1) := by decide +kernel
theorem dX9_isHeavy_14 : decode cX9_isHeavy 14 = .ok (.getfield 40, 3) := by decide +kernel
theorem dX9_isHeavy_17 : decode cX9_isHeavy 17 = .ok (.iload_n 1, 1) := by decide +kernel
theorem dX9_isHeavy_18 : decode cX9_isHeavy 18 = .ok (.iaload, 1) := by decide +kernel
theorem dX9_isHeavy_19 : decode cX9_isHeavy 19 = .ok (.aload_n 0, 1) := by decide +kernel
theorem dX9_isHeavy_20 : decode cX9_isHeavy 20 = .ok (.getfield 57, 3) := by decide +kernel
theorem dX9_isHeavy_23 : decode cX9_isHeavy 23 = .ok (.if_icmp .le 7, 3) := by decide +kernel
theorem dX9_isHeavy_26 : decode cX9_isHeavy 26 = .ok (.iconst 1, 1) := by decide +kernel
theorem dX9_isHeavy_27 : decode cX9_isHeavy 27 = .ok (.goto 20, 3) := by decide +kernel
theorem dX9_isHeavy_30 : decode cX9_isHeavy 30 = .ok (.iconst 0, 1) := by decide +kernel
theorem dX9_isHeavy_31 : decode cX9_isHeavy 31 = .ok (.goto 16, 3) := by decide +kernel
theorem dX9_isHeavy_34 : decode cX9_isHeavy 34 = .ok (.aload_n 0, 1) := by decide +kernel
theorem dX9_isHeavy_35 : decode cX9_isHeavy 35 = .ok (.iconst 1, 1) := by decide +kernel
theorem dX9_isHeavy_36 : decode cX9_isHeavy 36 = .ok (.invokevirtual 100, 3) := by decide +kernel
theorem dX9_isHeavy_39 : decode cX9_isHeavy 39 = .ok (.ifCond .le 7, 3) := by decide +kernel
theorem dX9_isHeavy_42 : decode cX9_isHeavy 42 = .ok (.iconst 1, 1) := by decide +kernel
theorem dX9_isHeavy_43 : decode cX9_isHeavy 43 = .ok (.goto 4, 3) := by decide +kernel
theorem dX9_isHeavy_46 : decode cX9_isHeavy 46 = .ok (.iconst 0, 1) := by decide +kernel
theorem dX9_isHeavy_47 : decode cX9_isHeavy 47 = .ok (.ireturn, 1) := by decide +kernel
theorem dX9_farTo_0 : decode cX9_farTo 0 = .ok (.aload_n 0, 1) := by decide +kernel
theorem dX9_farTo_1 : decode cX9_farTo 1 = .ok (.getfield 60, 3) := by decide +kernel
theorem dX9_farTo_4 : decode cX9_farTo 4 = .ok (.aload_n 0, 1) := by decide +kernel
theorem dX9_farTo_5 : decode cX9_farTo 5 = .ok (.getfield 9, 3) := by decide +kernel
theorem dX9_farTo_8 : decode cX9_farTo 8 = .ok (.aload_n 0, 1) := by decide +kernel
theorem dX9_farTo_9 : decode cX9_farTo 9 = .ok (.getfield 22, 3) := by decide +kernel
theorem dX9_farTo_12 : decode cX9_farTo 12 = .ok (.aload_n 0, 1) := by decide +kernel
theorem dX9_farTo_13 : decode cX9_farTo 13 = .ok (.getfield 37, 3) := by decide +kernel
theorem dX9_farTo_16 : decode cX9_farTo 16 = .ok (.iload_n 1, 1) := by decide +kernel
theorem dX9_farTo_17 : decode cX9_farTo 17 = .ok (.iaload, 1) := by decide +kernel
theorem dX9_farTo_18 : decode cX9_farTo 18 = .ok (.iaload, 1) := by decide +kernel
theorem dX9_farTo_19 : decode cX9_farTo 19 = .ok (.iaload, 1) := by decide +kernel
theorem dX9_farTo_20 : decode cX9_farTo 20 = .ok (.iaload, 1) := by decide +kernel
theorem dX9_farTo_21 : decode cX9_farTo 21 = .ok (.ireturn, 1) := by decide +kernel
theorem dX9_goesFirst_0 : decode cX9_goesFirst 0 = .ok (.aload_n 0, 1) := by decide +kernel
theorem dX9_goesFirst_1 : decode cX9_goesFirst 1 = .ok (.getfield 43, 3) := by decide +kernel
theorem dX9_goesFirst_4 : decode cX9_goesFirst 4 = .ok (.iload_n 1, 1) := by decide +kernel
theorem dX9_goesFirst_5 : decode cX9_goesFirst 5 = .ok (.iaload, 1) := by decide +kernel
theorem dX9_goesFirst_6 : decode cX9_goesFirst 6 = .ok (.aload_n 0, 1) := by decide +kernel
theorem dX9_goesFirst_7 : decode cX9_goesFirst 7 = .ok (.getfield 43, 3) := by decide +kernel
theorem dX9_goesFirst_10 : decode cX9_goesFirst 10 = .ok (.iload_n 2, 1) := by decide +kernel
theorem dX9_goesFirst_11 : decode cX9_goesFirst 11 = .ok (.iaload, 1) := by decide +kernel
theorem dX9_goesFirst_12 : decode cX9_goesFirst 12 = .ok (.if_icmp .eq 24, 3) := by decide +kernel
theorem dX9_goesFirst_15 : decode cX9_goesFirst 15 = .ok (.aload_n 0, 1) := by decide +kernel
theorem dX9_goesFirst_16 : decode cX9_goesFirst 16 = .ok (.getfield 43, 3) := by decide +kernel
theorem dX9_goesFirst_19 : decode cX9_goesFirst 19 = .ok (.iload_n 1, 1) := by decide +kernel
theorem dX9_goesFirst_20 : decode cX9_goesFirst 20 = .ok (.iaload, 1) := by decide +kernel
theorem dX9_goesFirst_21 : decode cX9_goesFirst 21 = .ok (.aload_n 0, 1) := by decide +kernel
theorem dX9_goesFirst_22 : decode cX9_goesFirst 22 = .ok (.getfield 43, 3) := by decide +kernel
theorem dX9_goesFirst_25 : decode cX9_goesFirst 25 = .ok (.iload_n 2, 1) := by decide +kernel
theorem dX9_goesFirst_26 : decode cX9_goesFirst 26 = .ok (.iaload, 1) := by decide +kernel
theorem dX9_goesFirst_27 : decode cX9_goesFirst 27 = .ok (.if_icmp .ge 7, 3) := by decide +kernel
theorem dX9_goesFirst_30 : decode cX9_goesFirst 30 = .ok (.iconst 1, 1) := by decide +kernel
theorem dX9_goesFirst_31 : decode cX9_goesFirst 31 = .ok (.goto 4, 3) := by decide +kernel
theorem dX9_goesFirst_34 : decode cX9_goesFirst 34 = .ok (.iconst 0, 1) := by decide +kernel
theorem dX9_goesFirst_35 : decode cX9_goesFirst 35 = .ok (.ireturn, 1) := by decide +kernel
theorem dX9_goesFirst_36 : decode cX9_goesFirst 36 = .ok (.aload_n 0, 1) := by decide +kernel
theorem dX9_goesFirst_37 : decode cX9_goesFirst 37 = .ok (.iload_n 1, 1) := by decide +kernel
theorem dX9_goesFirst_38 : decode cX9_goesFirst 38 = .ok (.invokevirtual 227, 3) := by decide +kernel
theorem dX9_goesFirst_41 : decode cX9_goesFirst 41 = .ok (.aload_n 0, 1) := by decide +kernel
theorem dX9_goesFirst_42 : decode cX9_goesFirst 42 = .ok (.iload_n 2, 1) := by decide +kernel
theorem dX9_goesFirst_43 : decode cX9_goesFirst 43 = .ok (.invokevirtual 227, 3) := by decide +kernel
theorem dX9_goesFirst_46 : decode cX9_goesFirst 46 = .ok (.if_icmp .eq 24, 3) := by decide +kernel
theorem dX9_goesFirst_49 : decode cX9_goesFirst 49 = .ok (.aload_n 0, 1) := by decide +kernel
theorem dX9_goesFirst_50 : decode cX9_goesFirst 50 = .ok (.iload_n 1, 1) := by decide +kernel
theorem dX9_goesFirst_51 : decode cX9_goesFirst 51 = .ok (.invokevirtual 227, 3) := by decide +kernel
theorem dX9_goesFirst_54 : decode cX9_goesFirst 54 = .ok (.aload_n 0, 1) := by decide +kernel
theorem dX9_goesFirst_55 : decode cX9_goesFirst 55 = .ok (.iload_n 2, 1) := by decide +kernel
theorem dX9_goesFirst_56 : decode cX9_goesFirst 56 = .ok (.invokevirtual 227, 3) := by decide +kernel
theorem dX9_goesFirst_59 : decode cX9_goesFirst 59 = .ok (.if_icmp .ge 7, 3) := by decide +kernel
theorem dX9_goesFirst_62 : decode cX9_goesFirst 62 = .ok (.iconst 1, 1) := by decide +kernel
theorem dX9_goesFirst_63 : decode cX9_goesFirst 63 = .ok (.goto 17, 3) := by decide +kernel
theorem dX9_goesFirst_66 : decode cX9_goesFirst 66 = .ok (.iconst 0, 1) := by decide +kernel
theorem dX9_goesFirst_67 : decode cX9_goesFirst 67 = .ok (.goto 13, 3) := by decide +kernel
theorem dX9_goesFirst_70 : decode cX9_goesFirst 70 = .ok (.iload_n 1, 1) := by decide +kernel
theorem dX9_goesFirst_71 : decode cX9_goesFirst 71 = .ok (.iload_n 2, 1) := by decide +kernel
theorem dX9_goesFirst_72 : decode cX9_goesFirst 72 = .ok (.if_icmp .ge 7, 3) := by decide +kernel
theorem dX9_goesFirst_75 : decode cX9_goesFirst 75 = .ok (.iconst 1, 1) := by decide +kernel
theorem dX9_goesFirst_76 : decode cX9_goesFirst 76 = .ok (.goto 4, 3) := by decide +kernel
theorem dX9_goesFirst_79 : decode cX9_goesFirst 79 = .ok (.iconst 0, 1) := by decide +kernel
theorem dX9_goesFirst_80 : decode cX9_goesFirst 80 = .ok (.ireturn, 1) := by decide +kernel
theorem dX9_nextHeavy_0 : decode cX9_nextHeavy 0 = .ok (.aload_n 0, 1) := by decide +kernel
theorem dX9_nextHeavy_1 : decode cX9_nextHeavy 1 = .ok (.invokevirtual 143, 3) := by decide +kernel
theorem dX9_nextHeavy_4 : decode cX9_nextHeavy 4 = .ok (.iconst (-1), 1) := by decide +kernel
theorem dX9_nextHeavy_5 : decode cX9_nextHeavy 5 = .ok (.istore_n 1, 1) := by decide +kernel
theorem dX9_nextHeavy_6 : decode cX9_nextHeavy 6 = .ok (.iconst 0, 1) := by decide +kernel
theorem dX9_nextHeavy_7 : decode cX9_nextHeavy 7 = .ok (.istore_n 2, 1) := by decide +kernel
theorem dX9_nextHeavy_8 : decode cX9_nextHeavy 8 = .ok (.iload_n 2, 1) := by decide +kernel
theorem dX9_nextHeavy_9 : decode cX9_nextHeavy 9 = .ok (.aload_n 0, 1) := by decide +kernel
theorem dX9_nextHeavy_10 : decode cX9_nextHeavy 10 = .ok (.getfield 97, 3) := by decide +kernel
theorem dX9_nextHeavy_13 : decode cX9_nextHeavy 13 = .ok (.if_icmp .ge 46, 3) := by decide +kernel
theorem dX9_nextHeavy_16 : decode cX9_nextHeavy 16 = .ok (.aload_n 0, 1) := by decide +kernel
theorem dX9_nextHeavy_17 : decode cX9_nextHeavy 17 = .ok (.getfield 40, 3) := by decide +kernel
theorem dX9_nextHeavy_20 : decode cX9_nextHeavy 20 = .ok (.iload_n 2, 1) := by decide +kernel
theorem dX9_nextHeavy_21 : decode cX9_nextHeavy 21 = .ok (.iaload, 1) := by decide +kernel
theorem dX9_nextHeavy_22 : decode cX9_nextHeavy 22 = .ok (.aload_n 0, 1) := by decide +kernel
theorem dX9_nextHeavy_23 : decode cX9_nextHeavy 23 = .ok (.getfield 57, 3) := by decide +kernel
theorem dX9_nextHeavy_26 : decode cX9_nextHeavy 26 = .ok (.if_icmp .le 27, 3) := by decide +kernel
theorem dX9_nextHeavy_29 : decode cX9_nextHeavy 29 = .ok (.aload_n 0, 1) := by decide +kernel
theorem dX9_nextHeavy_30 : decode cX9_nextHeavy 30 = .ok (.getfield 50, 3) := by decide +kernel
theorem dX9_nextHeavy_33 : decode cX9_nextHeavy 33 = .ok (.iload_n 2, 1) := by decide +kernel
theorem dX9_nextHeavy_34 : decode cX9_nextHeavy 34 = .ok (.baload, 1) := by decide +kernel
theorem dX9_nextHeavy_35 : decode cX9_nextHeavy 35 = .ok (.ifCond .ne 18, 3) := by decide +kernel
theorem dX9_nextHeavy_38 : decode cX9_nextHeavy 38 = .ok (.iload_n 1, 1) := by decide +kernel
theorem dX9_nextHeavy_39 : decode cX9_nextHeavy 39 = .ok (.ifCond .lt 12, 3) := by decide +kernel
theorem dX9_nextHeavy_42 : decode cX9_nextHeavy 42 = .ok (.aload_n 0, 1) := by decide +kernel
theorem dX9_nextHeavy_43 : decode cX9_nextHeavy 43 = .ok (.iload_n 2, 1) := by decide +kernel
theorem dX9_nextHeavy_44 : decode cX9_nextHeavy 44 = .ok (.iload_n 1, 1) := by decide +kernel
theorem dX9_nextHeavy_45 : decode cX9_nextHeavy 45 = .ok (.invokevirtual 230, 3) := by decide +kernel
theorem dX9_nextHeavy_48 : decode cX9_nextHeavy 48 = .ok (.ifCond .eq 5, 3) := by decide +kernel
theorem dX9_nextHeavy_51 : decode cX9_nextHeavy 51 = .ok (.iload_n 2, 1) := by decide +kernel
theorem dX9_nextHeavy_52 : decode cX9_nextHeavy 52 = .ok (.istore_n 1, 1) := by decide +kernel
theorem dX9_nextHeavy_53 : decode cX9_nextHeavy 53 = .ok (.iinc 2 1, 3) := by decide +kernel
theorem dX9_nextHeavy_56 : decode cX9_nextHeavy 56 = .ok (.goto (-48), 3) := by decide +kernel
theorem dX9_nextHeavy_59 : decode cX9_nextHeavy 59 = .ok (.iload_n 1, 1) := by decide +kernel
theorem dX9_nextHeavy_60 : decode cX9_nextHeavy 60 = .ok (.ireturn, 1) := by decide +kernel
theorem dX9_nextParcel_0 : decode cX9_nextParcel 0 = .ok (.aload_n 0, 1) := by decide +kernel
theorem dX9_nextParcel_1 : decode cX9_nextParcel 1 = .ok (.iconst 0, 1) := by decide +kernel
theorem dX9_nextParcel_2 : decode cX9_nextParcel 2 = .ok (.putfield 81, 3) := by decide +kernel
theorem dX9_nextParcel_5 : decode cX9_nextParcel 5 = .ok (.aload_n 0, 1) := by decide +kernel
theorem dX9_nextParcel_6 : decode cX9_nextParcel 6 = .ok (.invokevirtual 233, 3) := by decide +kernel
theorem dX9_nextParcel_9 : decode cX9_nextParcel 9 = .ok (.istore_n 1, 1) := by decide +kernel
theorem dX9_nextParcel_10 : decode cX9_nextParcel 10 = .ok (.iload_n 1, 1) := by decide +kernel
theorem dX9_nextParcel_11 : decode cX9_nextParcel 11 = .ok (.ifCond .ge 11, 3) := by decide +kernel
theorem dX9_nextParcel_14 : decode cX9_nextParcel 14 = .ok (.aload_n 0, 1) := by decide +kernel
theorem dX9_nextParcel_15 : decode cX9_nextParcel 15 = .ok (.iconst 1, 1) := by decide +kernel
theorem dX9_nextParcel_16 : decode cX9_nextParcel 16 = .ok (.invokevirtual 100, 3) := by decide +kernel
theorem dX9_nextParcel_19 : decode cX9_nextParcel 19 = .ok (.goto 4, 3) := by decide +kernel
theorem dX9_nextParcel_22 : decode cX9_nextParcel 22 = .ok (.iload_n 1, 1) := by decide +kernel
theorem dX9_nextParcel_23 : decode cX9_nextParcel 23 = .ok (.ireturn, 1) := by decide +kernel
theorem dX9_trip_0 : decode cX9_trip 0 = .ok (.iconst 2, 1) := by decide +kernel
theorem dX9_trip_1 : decode cX9_trip 1 = .ok (.aload_n 0, 1) := by decide +kernel
theorem dX9_trip_2 : decode cX9_trip 2 = .ok (.iload_n 1, 1) := by decide +kernel
theorem dX9_trip_3 : decode cX9_trip 3 = .ok (.invokevirtual 227, 3) := by decide +kernel
theorem dX9_trip_6 : decode cX9_trip 6 = .ok (.imul, 1) := by decide +kernel
theorem dX9_trip_7 : decode cX9_trip 7 = .ok (.iconst 2, 1) := by decide +kernel
theorem dX9_trip_8 : decode cX9_trip 8 = .ok (.aload_n 0, 1) := by decide +kernel
theorem dX9_trip_9 : decode cX9_trip 9 = .ok (.getfield 28, 3) := by decide +kernel
theorem dX9_trip_12 : decode cX9_trip 12 = .ok (.aload_n 0, 1) := by decide +kernel
theorem dX9_trip_13 : decode cX9_trip 13 = .ok (.getfield 37, 3) := by decide +kernel
theorem dX9_trip_16 : decode cX9_trip 16 = .ok (.iload_n 1, 1) := by decide +kernel
theorem dX9_trip_17 : decode cX9_trip 17 = .ok (.iaload, 1) := by decide +kernel
theorem dX9_trip_18 : decode cX9_trip 18 = .ok (.iaload, 1) := by decide +kernel
theorem dX9_trip_19 : decode cX9_trip 19 = .ok (.imul, 1) := by decide +kernel
theorem dX9_trip_20 : decode cX9_trip 20 = .ok (.iadd, 1) := by decide +kernel
theorem dX9_trip_21 : decode cX9_trip 21 = .ok (.iconst 2, 1) := by decide +kernel
theorem dX9_trip_22 : decode cX9_trip 22 = .ok (.iadd, 1) := by decide +kernel
theorem dX9_trip_23 : decode cX9_trip 23 = .ok (.iconst 3, 1) := by decide +kernel
theorem dX9_trip_24 : decode cX9_trip 24 = .ok (.idiv, 1) := by decide +kernel
theorem dX9_trip_25 : decode cX9_trip 25 = .ok (.ireturn, 1) := by decide +kernel
theorem dX9_tripOf_0 : decode cX9_tripOf 0 = .ok (.aload_n 0, 1) := by decide +kernel
theorem dX9_tripOf_1 : decode cX9_tripOf 1 = .ok (.iconst 0, 1) := by decide +kernel
theorem dX9_tripOf_2 : decode cX9_tripOf 2 = .ok (.putfield 81, 3) := by decide +kernel
theorem dX9_tripOf_5 : decode cX9_tripOf 5 = .ok (.aload_n 0, 1) := by decide +kernel
theorem dX9_tripOf_6 : decode cX9_tripOf 6 = .ok (.iload_n 1, 1) := by decide +kernel
theorem dX9_tripOf_7 : decode cX9_tripOf 7 = .ok (.invokevirtual 224, 3) := by decide +kernel
theorem dX9_tripOf_10 : decode cX9_tripOf 10 = .ok (.ifCond .ne 9, 3) := by decide +kernel
theorem dX9_tripOf_13 : decode cX9_tripOf 13 = .ok (.aload_n 0, 1) := by decide +kernel
theorem dX9_tripOf_14 : decode cX9_tripOf 14 = .ok (.iconst 1, 1) := by decide +kernel
theorem dX9_tripOf_15 : decode cX9_tripOf 15 = .ok (.invokevirtual 100, 3) := by decide +kernel
theorem dX9_tripOf_18 : decode cX9_tripOf 18 = .ok (.ireturn, 1) := by decide +kernel
theorem dX9_tripOf_19 : decode cX9_tripOf 19 = .ok (.aload_n 0, 1) := by decide +kernel
theorem dX9_tripOf_20 : decode cX9_tripOf 20 = .ok (.invokevirtual 143, 3) := by decide +kernel
theorem dX9_tripOf_23 : decode cX9_tripOf 23 = .ok (.aload_n 0, 1) := by decide +kernel
theorem dX9_tripOf_24 : decode cX9_tripOf 24 = .ok (.iload_n 1, 1) := by decide +kernel
theorem dX9_tripOf_25 : decode cX9_tripOf 25 = .ok (.invokevirtual 227, 3) := by decide +kernel
theorem dX9_tripOf_28 : decode cX9_tripOf 28 = .ok (.ldc 136, 2) := by decide +kernel
theorem dX9_tripOf_30 : decode cX9_tripOf 30 = .ok (.if_icmp .lt 11, 3) := by decide +kernel
theorem dX9_tripOf_33 : decode cX9_tripOf 33 = .ok (.aload_n 0, 1) := by decide +kernel
theorem dX9_tripOf_34 : decode cX9_tripOf 34 = .ok (.iconst 2, 1) := by decide +kernel
theorem dX9_tripOf_35 : decode cX9_tripOf 35 = .ok (.invokevirtual 100, 3) := by decide +kernel
theorem dX9_tripOf_38 : decode cX9_tripOf 38 = .ok (.goto 8, 3) := by decide +kernel
theorem dX9_tripOf_41 : decode cX9_tripOf 41 = .ok (.aload_n 0, 1) := by decide +kernel
theorem dX9_tripOf_42 : decode cX9_tripOf 42 = .ok (.iload_n 1, 1) := by decide +kernel
theorem dX9_tripOf_43 : decode cX9_tripOf 43 = .ok (.invokevirtual 237, 3) := by decide +kernel
theorem dX9_tripOf_46 : decode cX9_tripOf 46 = .ok (.ireturn, 1) := by decide +kernel
theorem dX9_dispatch_0 : decode cX9_dispatch 0 = .ok (.aload_n 0, 1) := by decide +kernel
theorem dX9_dispatch_1 : decode cX9_dispatch 1 = .ok (.iconst 0, 1) := by decide +kernel
theorem dX9_dispatch_2 : decode cX9_dispatch 2 = .ok (.putfield 81, 3) := by decide +kernel
theorem dX9_dispatch_5 : decode cX9_dispatch 5 = .ok (.aload_n 0, 1) := by decide +kernel
theorem dX9_dispatch_6 : decode cX9_dispatch 6 = .ok (.invokevirtual 233, 3) := by decide +kernel
theorem dX9_dispatch_9 : decode cX9_dispatch 9 = .ok (.istore_n 1, 1) := by decide +kernel
theorem dX9_dispatch_10 : decode cX9_dispatch 10 = .ok (.iload_n 1, 1) := by decide +kernel
theorem dX9_dispatch_11 : decode cX9_dispatch 11 = .ok (.ifCond .ge 17, 3) := by decide +kernel
theorem dX9_dispatch_14 : decode cX9_dispatch 14 = .ok (.aload_n 0, 1) := by decide +kernel
theorem dX9_dispatch_15 : decode cX9_dispatch 15 = .ok (.iconst 1, 1) := by decide +kernel
theorem dX9_dispatch_16 : decode cX9_dispatch 16 = .ok (.invokevirtual 100, 3) := by decide +kernel
theorem dX9_dispatch_19 : decode cX9_dispatch 19 = .ok (.ifCond .le 7, 3) := by decide +kernel
theorem dX9_dispatch_22 : decode cX9_dispatch 22 = .ok (.iconst 1, 1) := by decide +kernel
theorem dX9_dispatch_23 : decode cX9_dispatch 23 = .ok (.goto 4, 3) := by decide +kernel
theorem dX9_dispatch_26 : decode cX9_dispatch 26 = .ok (.iconst 0, 1) := by decide +kernel
theorem dX9_dispatch_27 : decode cX9_dispatch 27 = .ok (.ireturn, 1) := by decide +kernel
theorem dX9_dispatch_28 : decode cX9_dispatch 28 = .ok (.aload_n 0, 1) := by decide +kernel
theorem dX9_dispatch_29 : decode cX9_dispatch 29 = .ok (.iload_n 1, 1) := by decide +kernel
theorem dX9_dispatch_30 : decode cX9_dispatch 30 = .ok (.invokevirtual 227, 3) := by decide +kernel
theorem dX9_dispatch_33 : decode cX9_dispatch 33 = .ok (.ldc 136, 2) := by decide +kernel
theorem dX9_dispatch_35 : decode cX9_dispatch 35 = .ok (.if_icmp .lt 17, 3) := by decide +kernel
theorem dX9_dispatch_38 : decode cX9_dispatch 38 = .ok (.aload_n 0, 1) := by decide +kernel
theorem dX9_dispatch_39 : decode cX9_dispatch 39 = .ok (.iconst 2, 1) := by decide +kernel
theorem dX9_dispatch_40 : decode cX9_dispatch 40 = .ok (.invokevirtual 100, 3) := by decide +kernel
theorem dX9_dispatch_43 : decode cX9_dispatch 43 = .ok (.ifCond .le 7, 3) := by decide +kernel
theorem dX9_dispatch_46 : decode cX9_dispatch 46 = .ok (.iconst 1, 1) := by decide +kernel
theorem dX9_dispatch_47 : decode cX9_dispatch 47 = .ok (.goto 4, 3) := by decide +kernel
theorem dX9_dispatch_50 : decode cX9_dispatch 50 = .ok (.iconst 0, 1) := by decide +kernel
theorem dX9_dispatch_51 : decode cX9_dispatch 51 = .ok (.ireturn, 1) := by decide +kernel
theorem dX9_dispatch_52 : decode cX9_dispatch 52 = .ok (.aload_n 0, 1) := by decide +kernel
theorem dX9_dispatch_53 : decode cX9_dispatch 53 = .ok (.dup, 1) := by decide +kernel
theorem dX9_dispatch_54 : decode cX9_dispatch 54 = .ok (.getfield 126, 3) := by decide +kernel
theorem dX9_dispatch_57 : decode cX9_dispatch 57 = .ok (.aload_n 0, 1) := by decide +kernel
theorem dX9_dispatch_58 : decode cX9_dispatch 58 = .ok (.iload_n 1, 1) := by decide +kernel
theorem dX9_dispatch_59 : decode cX9_dispatch 59 = .ok (.invokevirtual 237, 3) := by decide +kernel
theorem dX9_dispatch_62 : decode cX9_dispatch 62 = .ok (.iadd, 1) := by decide +kernel
theorem dX9_dispatch_63 : decode cX9_dispatch 63 = .ok (.putfield 126, 3) := by decide +kernel
theorem dX9_dispatch_66 : decode cX9_dispatch 66 = .ok (.aload_n 0, 1) := by decide +kernel
theorem dX9_dispatch_67 : decode cX9_dispatch 67 = .ok (.getfield 50, 3) := by decide +kernel
theorem dX9_dispatch_70 : decode cX9_dispatch 70 = .ok (.iload_n 1, 1) := by decide +kernel
theorem dX9_dispatch_71 : decode cX9_dispatch 71 = .ok (.iconst 1, 1) := by decide +kernel
theorem dX9_dispatch_72 : decode cX9_dispatch 72 = .ok (.bastore, 1) := by decide +kernel
theorem dX9_dispatch_73 : decode cX9_dispatch 73 = .ok (.aload_n 0, 1) := by decide +kernel
theorem dX9_dispatch_74 : decode cX9_dispatch 74 = .ok (.dup, 1) := by decide +kernel
theorem dX9_dispatch_75 : decode cX9_dispatch 75 = .ok (.getfield 240, 3) := by decide +kernel
theorem dX9_dispatch_78 : decode cX9_dispatch 78 = .ok (.iconst 1, 1) := by decide +kernel
theorem dX9_dispatch_79 : decode cX9_dispatch 79 = .ok (.iadd, 1) := by decide +kernel
theorem dX9_dispatch_80 : decode cX9_dispatch 80 = .ok (.putfield 240, 3) := by decide +kernel
theorem dX9_dispatch_83 : decode cX9_dispatch 83 = .ok (.aload_n 0, 1) := by decide +kernel
theorem dX9_dispatch_84 : decode cX9_dispatch 84 = .ok (.getfield 126, 3) := by decide +kernel
theorem dX9_dispatch_87 : decode cX9_dispatch 87 = .ok (.aload_n 0, 1) := by decide +kernel
theorem dX9_dispatch_88 : decode cX9_dispatch 88 = .ok (.iload_n 1, 1) := by decide +kernel
theorem dX9_dispatch_89 : decode cX9_dispatch 89 = .ok (.invokevirtual 237, 3) := by decide +kernel
theorem dX9_dispatch_92 : decode cX9_dispatch 92 = .ok (.iconst 2, 1) := by decide +kernel
theorem dX9_dispatch_93 : decode cX9_dispatch 93 = .ok (.idiv, 1) := by decide +kernel
theorem dX9_dispatch_94 : decode cX9_dispatch 94 = .ok (.isub, 1) := by decide +kernel
theorem dX9_dispatch_95 : decode cX9_dispatch 95 = .ok (.aload_n 0, 1) := by decide +kernel
theorem dX9_dispatch_96 : decode cX9_dispatch 96 = .ok (.getfield 43, 3) := by decide +kernel
theorem dX9_dispatch_99 : decode cX9_dispatch 99 = .ok (.iload_n 1, 1) := by decide +kernel
theorem dX9_dispatch_100 : decode cX9_dispatch 100 = .ok (.iaload, 1) := by decide +kernel
theorem dX9_dispatch_101 : decode cX9_dispatch 101 = .ok (.if_icmp .le 7, 3) := by decide +kernel
theorem dX9_dispatch_104 : decode cX9_dispatch 104 = .ok (.iconst 1, 1) := by decide +kernel
theorem dX9_dispatch_105 : decode cX9_dispatch 105 = .ok (.goto 4, 3) := by decide +kernel
theorem dX9_dispatch_108 : decode cX9_dispatch 108 = .ok (.iconst 0, 1) := by decide +kernel
theorem dX9_dispatch_109 : decode cX9_dispatch 109 = .ok (.istore_n 2, 1) := by decide +kernel
theorem dX9_dispatch_110 : decode cX9_dispatch 110 = .ok (.aload_n 0, 1) := by decide +kernel
theorem dX9_dispatch_111 : decode cX9_dispatch 111 = .ok (.dup, 1) := by decide +kernel
theorem dX9_dispatch_112 : decode cX9_dispatch 112 = .ok (.getfield 243, 3) := by decide +kernel
theorem dX9_dispatch_115 : decode cX9_dispatch 115 = .ok (.iload_n 2, 1) := by decide +kernel
theorem dX9_dispatch_116 : decode cX9_dispatch 116 = .ok (.ifCond .eq 7, 3) := by decide +kernel
theorem dX9_dispatch_119 : decode cX9_dispatch 119 = .ok (.iconst 1, 1) := by decide +kernel
theorem dX9_dispatch_120 : decode cX9_dispatch 120 = .ok (.goto 4, 3) := by decide +kernel
theorem dX9_dispatch_123 : decode cX9_dispatch 123 = .ok (.iconst 0, 1) := by decide +kernel
theorem dX9_dispatch_124 : decode cX9_dispatch 124 = .ok (.iadd, 1) := by decide +kernel
theorem dX9_dispatch_125 : decode cX9_dispatch 125 = .ok (.putfield 243, 3) := by decide +kernel
theorem dX9_dispatch_128 : decode cX9_dispatch 128 = .ok (.iload_n 2, 1) := by decide +kernel
theorem dX9_dispatch_129 : decode cX9_dispatch 129 = .ok (.ireturn, 1) := by decide +kernel
theorem dX9_vanClock_0 : decode cX9_vanClock 0 = .ok (.aload_n 0, 1) := by decide +kernel
theorem dX9_vanClock_1 : decode cX9_vanClock 1 = .ok (.iconst 0, 1) := by decide +kernel
theorem dX9_vanClock_2 : decode cX9_vanClock 2 = .ok (.putfield 81, 3) := by decide +kernel
theorem dX9_vanClock_5 : decode cX9_vanClock 5 = .ok (.aload_n 0, 1) := by decide +kernel
theorem dX9_vanClock_6 : decode cX9_vanClock 6 = .ok (.getfield 126, 3) := by decide +kernel
theorem dX9_vanClock_9 : decode cX9_vanClock 9 = .ok (.ireturn, 1) := by decide +kernel
theorem dX9_late_0 : decode cX9_late 0 = .ok (.aload_n 0, 1) := by decide +kernel
theorem dX9_late_1 : decode cX9_late 1 = .ok (.iconst 0, 1) := by decide +kernel
theorem dX9_late_2 : decode cX9_late 2 = .ok (.putfield 81, 3) := by decide +kernel
theorem dX9_late_5 : decode cX9_late 5 = .ok (.aload_n 0, 1) := by decide +kernel
theorem dX9_late_6 : decode cX9_late 6 = .ok (.getfield 243, 3) := by decide +kernel
theorem dX9_late_9 : decode cX9_late 9 = .ok (.ireturn, 1) := by decide +kernel
theorem dX9_walked_0 : decode cX9_walked 0 = .ok (.aload_n 0, 1) := by decide +kernel
theorem dX9_walked_1 : decode cX9_walked 1 = .ok (.iconst 0, 1) := by decide +kernel
theorem dX9_walked_2 : decode cX9_walked 2 = .ok (.putfield 81, 3) := by decide +kernel
theorem dX9_walked_5 : decode cX9_walked 5 = .ok (.aload_n 0, 1) := by decide +kernel
theorem dX9_walked_6 : decode cX9_walked 6 = .ok (.getfield 214, 3) := by decide +kernel
theorem dX9_walked_9 : decode cX9_walked 9 = .ok (.lreturn, 1) := by decide +kernel
theorem dX9_lateShare_0 : decode cX9_lateShare 0 = .ok (.aload_n 0, 1) := by decide +kernel
theorem dX9_lateShare_1 : decode cX9_lateShare 1 = .ok (.iconst 0, 1) := by decide +kernel
theorem dX9_lateShare_2 : decode cX9_lateShare 2 = .ok (.putfield 81, 3) := by decide +kernel
theorem dX9_lateShare_5 : decode cX9_lateShare 5 = .ok (.aload_n 0, 1) := by decide +kernel
theorem dX9_lateShare_6 : decode cX9_lateShare 6 = .ok (.getfield 240, 3) := by decide +kernel
theorem dX9_lateShare_9 : decode cX9_lateShare 9 = .ok (.ifCond .ne 10, 3) := by decide +kernel
theorem dX9_lateShare_12 : decode cX9_lateShare 12 = .ok (.aload_n 0, 1) := by decide +kernel
theorem dX9_lateShare_13 : decode cX9_lateShare 13 = .ok (.iconst 1, 1) := by decide +kernel
theorem dX9_lateShare_14 : decode cX9_lateShare 14 = .ok (.invokevirtual 100, 3) := by decide +kernel
theorem dX9_lateShare_17 : decode cX9_lateShare 17 = .ok (.i2f, 1) := by decide +kernel
theorem dX9_lateShare_18 : decode cX9_lateShare 18 = .ok (.freturn, 1) := by decide +kernel
theorem dX9_lateShare_19 : decode cX9_lateShare 19 = .ok (.aload_n 0, 1) := by decide +kernel
theorem dX9_lateShare_20 : decode cX9_lateShare 20 = .ok (.getfield 243, 3) := by decide +kernel
theorem dX9_lateShare_23 : decode cX9_lateShare 23 = .ok (.i2f, 1) := by decide +kernel
theorem dX9_lateShare_24 : decode cX9_lateShare 24 = .ok (.aload_n 0, 1) := by decide +kernel
theorem dX9_lateShare_25 : decode cX9_lateShare 25 = .ok (.getfield 240, 3) := by decide +kernel
theorem dX9_lateShare_28 : decode cX9_lateShare 28 = .ok (.i2f, 1) := by decide +kernel
theorem dX9_lateShare_29 : decode cX9_lateShare 29 = .ok (.fdiv, 1) := by decide +kernel
theorem dX9_lateShare_30 : decode cX9_lateShare 30 = .ok (.freturn, 1) := by decide +kernel
theorem dX9_meanLetters_0 : decode cX9_meanLetters 0 = .ok (.aload_n 0, 1) := by decide +kernel
theorem dX9_meanLetters_1 : decode cX9_meanLetters 1 = .ok (.iconst 0, 1) := by decide +kernel
theorem dX9_meanLetters_2 : decode cX9_meanLetters 2 = .ok (.putfield 81, 3) := by decide +kernel
theorem dX9_meanLetters_5 : decode cX9_meanLetters 5 = .ok (.iconst 0, 1) := by decide +kernel
theorem dX9_meanLetters_6 : decode cX9_meanLetters 6 = .ok (.istore_n 1, 1) := by decide +kernel
theorem dX9_meanLetters_7 : decode cX9_meanLetters 7 = .ok (.iconst 0, 1) := by decide +kernel
theorem dX9_meanLetters_8 : decode cX9_meanLetters 8 = .ok (.istore_n 2, 1) := by decide +kernel
theorem dX9_meanLetters_9 : decode cX9_meanLetters 9 = .ok (.iconst 0, 1) := by decide +kernel
theorem dX9_meanLetters_10 : decode cX9_meanLetters 10 = .ok (.istore_n 3, 1) := by decide +kernel
theorem dX9_meanLetters_11 : decode cX9_meanLetters 11 = .ok (.iload_n 3, 1) := by decide +kernel
theorem dX9_meanLetters_12 : decode cX9_meanLetters 12 = .ok (.aload_n 0, 1) := by decide +kernel
theorem dX9_meanLetters_13 : decode cX9_meanLetters 13 = .ok (.getfield 91, 3) := by decide +kernel
theorem dX9_meanLetters_16 : decode cX9_meanLetters 16 = .ok (.if_icmp .ge 34, 3) := by decide +kernel
theorem dX9_meanLetters_19 : decode cX9_meanLetters 19 = .ok (.iload_n 1, 1) := by decide +kernel
theorem dX9_meanLetters_20 : decode cX9_meanLetters 20 = .ok (.aload_n 0, 1) := by decide +kernel
theorem dX9_meanLetters_21 : decode cX9_meanLetters 21 = .ok (.iload_n 3, 1) := by decide +kernel
theorem dX9_meanLetters_22 : decode cX9_meanLetters 22 = .ok (.invokevirtual 123, 3) := by decide +kernel
theorem dX9_meanLetters_25 : decode cX9_meanLetters 25 = .ok (.ifCond .eq 7, 3) := by decide +kernel
theorem dX9_meanLetters_28 : decode cX9_meanLetters 28 = .ok (.iconst 1, 1) := by decide +kernel
theorem dX9_meanLetters_29 : decode cX9_meanLetters 29 = .ok (.goto 4, 3) := by decide +kernel
theorem dX9_meanLetters_32 : decode cX9_meanLetters 32 = .ok (.iconst 0, 1) := by decide +kernel
theorem dX9_meanLetters_33 : decode cX9_meanLetters 33 = .ok (.iadd, 1) := by decide +kernel
theorem dX9_meanLetters_34 : decode cX9_meanLetters 34 = .ok (.istore_n 1, 1) := by decide +kernel
theorem dX9_meanLetters_35 : decode cX9_meanLetters 35 = .ok (.iload_n 2, 1) := by decide +kernel
theorem dX9_meanLetters_36 : decode cX9_meanLetters 36 = .ok (.aload_n 0, 1) := by decide +kernel
theorem dX9_meanLetters_37 : decode cX9_meanLetters 37 = .ok (.getfield 31, 3) := by decide +kernel
theorem dX9_meanLetters_40 : decode cX9_meanLetters 40 = .ok (.iload_n 3, 1) := by decide +kernel
theorem dX9_meanLetters_41 : decode cX9_meanLetters 41 = .ok (.iaload, 1) := by decide +kernel
theorem dX9_meanLetters_42 : decode cX9_meanLetters 42 = .ok (.iadd, 1) := by decide +kernel
theorem dX9_meanLetters_43 : decode cX9_meanLetters 43 = .ok (.istore_n 2, 1) := by decide +kernel
theorem dX9_meanLetters_44 : decode cX9_meanLetters 44 = .ok (.iinc 3 1, 3) := by decide +kernel
theorem dX9_meanLetters_47 : decode cX9_meanLetters 47 = .ok (.goto (-36), 3) := by decide +kernel
theorem dX9_meanLetters_50 : decode cX9_meanLetters 50 = .ok (.iload_n 1, 1) := by decide +kernel
theorem dX9_meanLetters_51 : decode cX9_meanLetters 51 = .ok (.ifCond .ne 10, 3) := by decide +kernel
theorem dX9_meanLetters_54 : decode cX9_meanLetters 54 = .ok (.aload_n 0, 1) := by decide +kernel
theorem dX9_meanLetters_55 : decode cX9_meanLetters 55 = .ok (.iconst 1, 1) := by decide +kernel
theorem dX9_meanLetters_56 : decode cX9_meanLetters 56 = .ok (.invokevirtual 100, 3) := by decide +kernel
theorem dX9_meanLetters_59 : decode cX9_meanLetters 59 = .ok (.i2d, 1) := by decide +kernel
theorem dX9_meanLetters_60 : decode cX9_meanLetters 60 = .ok (.dreturn, 1) := by decide +kernel
theorem dX9_meanLetters_61 : decode cX9_meanLetters 61 = .ok (.iload_n 2, 1) := by decide +kernel
theorem dX9_meanLetters_62 : decode cX9_meanLetters 62 = .ok (.i2d, 1) := by decide +kernel
theorem dX9_meanLetters_63 : decode cX9_meanLetters 63 = .ok (.iload_n 1, 1) := by decide +kernel
theorem dX9_meanLetters_64 : decode cX9_meanLetters 64 = .ok (.i2d, 1) := by decide +kernel
theorem dX9_meanLetters_65 : decode cX9_meanLetters 65 = .ok (.ddiv, 1) := by decide +kernel
theorem dX9_meanLetters_66 : decode cX9_meanLetters 66 = .ok (.dreturn, 1) := by decide +kernel
