theorem dX0_init_0 : decode cX0_init 0 = .ok (.aload_n 0, 1) := by decide +kernel
theorem dX0_init_1 : decode cX0_init 1 = .ok (.invokespecial 3, 3) := by decide +kernel
theorem dX0_init_4 : decode cX0_init 4 = .ok (.aload_n 0, 1) := by decide +kernel
theorem dX0_init_5 : decode cX0_init 5 = .ok (.bipush 61, 2) := by decide +kernel
theorem dX0_init_7 : decode cX0_init 7 = .ok (.newarray .int, 2) := by decide +kernel
theorem dX0_init_9 : decode cX0_init 9 = .ok (.putfield 9, 3) := by decide +kernel
theorem dX0_init_12 : decode cX0_init 12 = .ok (.aload_n 0, 1) := by decide +kernel
theorem dX0_init_13 : decode cX0_init 13 = .ok (.sipush 1464, 3) := by decide +kernel
theorem dX0_init_16 : decode cX0_init 16 = .ok (.newarray .int, 2) := by decide +kernel
theorem dX0_init_18 : decode cX0_init 18 = .ok (.putfield 15, 3) := by decide +kernel
theorem dX0_init_21 : decode cX0_init 21 = .ok (.aload_n 0, 1) := by decide +kernel
theorem dX0_init_22 : decode cX0_init 22 = .ok (.iconst 5, 1) := by decide +kernel
theorem dX0_init_23 : decode cX0_init 23 = .ok (.newarray .int, 2) := by decide +kernel
theorem dX0_init_25 : decode cX0_init 25 = .ok (.putfield 18, 3) := by decide +kernel
theorem dX0_init_28 : decode cX0_init 28 = .ok (.aload_n 0, 1) := by decide +kernel
theorem dX0_init_29 : decode cX0_init 29 = .ok (.sipush 200, 3) := by decide +kernel
theorem dX0_init_32 : decode cX0_init 32 = .ok (.newarray .long, 2) := by decide +kernel
theorem dX0_init_34 : decode cX0_init 34 = .ok (.putfield 21, 3) := by decide +kernel
theorem dX0_init_37 : decode cX0_init 37 = .ok (.return_, 1) := by decide +kernel
theorem dX0_turnTo_0 : decode cX0_turnTo 0 = .ok (.aload_n 0, 1) := by decide +kernel
theorem dX0_turnTo_1 : decode cX0_turnTo 1 = .ok (.getfield 25, 3) := by decide +kernel
theorem dX0_turnTo_4 : decode cX0_turnTo 4 = .ok (.aload_n 1, 1) := by decide +kernel
theorem dX0_turnTo_5 : decode cX0_turnTo 5 = .ok (.if_acmp .ne 12, 3) := by decide +kernel
theorem dX0_turnTo_8 : decode cX0_turnTo 8 = .ok (.aload_n 0, 1) := by decide +kernel
theorem dX0_turnTo_9 : decode cX0_turnTo 9 = .ok (.getfield 29, 3) := by decide +kernel
theorem dX0_turnTo_12 : decode cX0_turnTo 12 = .ok (.aload_n 2, 1) := by decide +kernel
theorem dX0_turnTo_13 : decode cX0_turnTo 13 = .ok (.if_acmp .ne 4, 3) := by decide +kernel
theorem dX0_turnTo_16 : decode cX0_turnTo 16 = .ok (.return_, 1) := by decide +kernel
theorem dX0_turnTo_17 : decode cX0_turnTo 17 = .ok (.aload_n 0, 1) := by decide +kernel
theorem dX0_turnTo_18 : decode cX0_turnTo 18 = .ok (.aload_n 1, 1) := by decide +kernel
theorem dX0_turnTo_19 : decode cX0_turnTo 19 = .ok (.putfield 25, 3) := by decide +kernel
theorem dX0_turnTo_22 : decode cX0_turnTo 22 = .ok (.aload_n 0, 1) := by decide +kernel
theorem dX0_turnTo_23 : decode cX0_turnTo 23 = .ok (.aload_n 2, 1) := by decide +kernel
theorem dX0_turnTo_24 : decode cX0_turnTo 24 = .ok (.putfield 29, 3) := by decide +kernel
theorem dX0_turnTo_27 : decode cX0_turnTo 27 = .ok (.aload_n 0, 1) := by decide +kernel
theorem dX0_turnTo_28 : decode cX0_turnTo 28 = .ok (.iconst 0, 1) := by decide +kernel
theorem dX0_turnTo_29 : decode cX0_turnTo 29 = .ok (.putfield 33, 3) := by decide +kernel
theorem dX0_turnTo_32 : decode cX0_turnTo 32 = .ok (.aload_n 0, 1) := by decide +kernel
theorem dX0_turnTo_33 : decode cX0_turnTo 33 = .ok (.getfield 9, 3) := by decide +kernel
theorem dX0_turnTo_36 : decode cX0_turnTo 36 = .ok (.iconst 0, 1) := by decide +kernel
theorem dX0_turnTo_37 : decode cX0_turnTo 37 = .ok (.iconst 0, 1) := by decide +kernel
theorem dX0_turnTo_38 : decode cX0_turnTo 38 = .ok (.iastore, 1) := by decide +kernel
theorem dX0_turnTo_39 : decode cX0_turnTo 39 = .ok (.aload_n 1, 1) := by decide +kernel
theorem dX0_turnTo_40 : decode cX0_turnTo 40 = .ok (.getfield 37, 3) := by decide +kernel
theorem dX0_turnTo_43 : decode cX0_turnTo 43 = .ok (.iconst 0, 1) := by decide +kernel
theorem dX0_turnTo_44 : decode cX0_turnTo 44 = .ok (.aload_n 0, 1) := by decide +kernel
theorem dX0_turnTo_45 : decode cX0_turnTo 45 = .ok (.getfield 15, 3) := by decide +kernel
theorem dX0_turnTo_48 : decode cX0_turnTo 48 = .ok (.iconst 0, 1) := by decide +kernel
theorem dX0_turnTo_49 : decode cX0_turnTo 49 = .ok (.bipush 24, 2) := by decide +kernel
theorem dX0_turnTo_51 : decode cX0_turnTo 51 = .ok (.invokestatic 42, 3) := by decide +kernel
theorem dX0_turnTo_54 : decode cX0_turnTo 54 = .ok (.return_, 1) := by decide +kernel
theorem dX0_lengthAt_0 : decode cX0_lengthAt 0 = .ok (.aload_n 0, 1) := by decide +kernel
theorem dX0_lengthAt_1 : decode cX0_lengthAt 1 = .ok (.getfield 15, 3) := by decide +kernel
theorem dX0_lengthAt_4 : decode cX0_lengthAt 4 = .ok (.iload_n 1, 1) := by decide +kernel
theorem dX0_lengthAt_5 : decode cX0_lengthAt 5 = .ok (.bipush 24, 2) := by decide +kernel
theorem dX0_lengthAt_7 : decode cX0_lengthAt 7 = .ok (.imul, 1) := by decide +kernel
theorem dX0_lengthAt_8 : decode cX0_lengthAt 8 = .ok (.iload_n 2, 1) := by decide +kernel
theorem dX0_lengthAt_9 : decode cX0_lengthAt 9 = .ok (.iadd, 1) := by decide +kernel
theorem dX0_lengthAt_10 : decode cX0_lengthAt 10 = .ok (.iaload, 1) := by decide +kernel
theorem dX0_lengthAt_11 : decode cX0_lengthAt 11 = .ok (.ireturn, 1) := by decide +kernel
theorem dX0_reach_0 : decode cX0_reach 0 = .ok (.iload_n 1, 1) := by decide +kernel
theorem dX0_reach_1 : decode cX0_reach 1 = .ok (.bipush 60, 2) := by decide +kernel
theorem dX0_reach_3 : decode cX0_reach 3 = .ok (.invokestatic 48, 3) := by decide +kernel
theorem dX0_reach_6 : decode cX0_reach 6 = .ok (.istore 6, 2) := by decide +kernel
theorem dX0_reach_8 : decode cX0_reach 8 = .ok (.aload_n 0, 1) := by decide +kernel
theorem dX0_reach_9 : decode cX0_reach 9 = .ok (.getfield 33, 3) := by decide +kernel
theorem dX0_reach_12 : decode cX0_reach 12 = .ok (.iconst 1, 1) := by decide +kernel
theorem dX0_reach_13 : decode cX0_reach 13 = .ok (.iadd, 1) := by decide +kernel
theorem dX0_reach_14 : decode cX0_reach 14 = .ok (.istore 7, 2) := by decide +kernel
theorem dX0_reach_16 : decode cX0_reach 16 = .ok (.iload 7, 2) := by decide +kernel
theorem dX0_reach_18 : decode cX0_reach 18 = .ok (.iload 6, 2) := by decide +kernel
theorem dX0_reach_20 : decode cX0_reach 20 = .ok (.if_icmp .gt 27, 3) := by decide +kernel
theorem dX0_reach_23 : decode cX0_reach 23 = .ok (.aload_n 0, 1) := by decide +kernel
theorem dX0_reach_24 : decode cX0_reach 24 = .ok (.iload 7, 2) := by decide +kernel
theorem dX0_reach_26 : decode cX0_reach 26 = .ok (.aload_n 2, 1) := by decide +kernel
theorem dX0_reach_27 : decode cX0_reach 27 = .ok (.aload_n 3, 1) := by decide +kernel
theorem dX0_reach_28 : decode cX0_reach 28 = .ok (.aload 4, 2) := by decide +kernel
theorem dX0_reach_30 : decode cX0_reach 30 = .ok (.aload 5, 2) := by decide +kernel
theorem dX0_reach_32 : decode cX0_reach 32 = .ok (.invokevirtual 54, 3) := by decide +kernel
theorem dX0_reach_35 : decode cX0_reach 35 = .ok (.aload_n 0, 1) := by decide +kernel
theorem dX0_reach_36 : decode cX0_reach 36 = .ok (.iload 7, 2) := by decide +kernel
theorem dX0_reach_38 : decode cX0_reach 38 = .ok (.putfield 33, 3) := by decide +kernel
theorem dX0_reach_41 : decode cX0_reach 41 = .ok (.iinc 7 1, 3) := by decide +kernel
theorem dX0_reach_44 : decode cX0_reach 44 = .ok (.goto (-28), 3) := by decide +kernel
theorem dX0_reach_47 : decode cX0_reach 47 = .ok (.return_, 1) := by decide +kernel
theorem dX0_ageOneHour_0 : decode cX0_ageOneHour 0 = .ok (.aload_n 0, 1) := by decide +kernel
theorem dX0_ageOneHour_1 : decode cX0_ageOneHour 1 = .ok (.getfield 9, 3) := by decide +kernel
theorem dX0_ageOneHour_4 : decode cX0_ageOneHour 4 = .ok (.iload_n 1, 1) := by decide +kernel
theorem dX0_ageOneHour_5 : decode cX0_ageOneHour 5 = .ok (.iconst 1, 1) := by decide +kernel
theorem dX0_ageOneHour_6 : decode cX0_ageOneHour 6 = .ok (.isub, 1) := by decide +kernel
theorem dX0_ageOneHour_7 : decode cX0_ageOneHour 7 = .ok (.iaload, 1) := by decide +kernel
theorem dX0_ageOneHour_8 : decode cX0_ageOneHour 8 = .ok (.istore 6, 2) := by decide +kernel
theorem dX0_ageOneHour_10 : decode cX0_ageOneHour 10 = .ok (.aload 5, 2) := by decide +kernel
theorem dX0_ageOneHour_12 : decode cX0_ageOneHour 12 = .ok (.aload_n 2, 1) := by decide +kernel
theorem dX0_ageOneHour_13 : decode cX0_ageOneHour 13 = .ok (.iload 6, 2) := by decide +kernel
theorem dX0_ageOneHour_15 : decode cX0_ageOneHour 15 = .ok (.invokevirtual 58, 3) := by decide +kernel
theorem dX0_ageOneHour_18 : decode cX0_ageOneHour 18 = .ok (.iconst 0, 1) := by decide +kernel
theorem dX0_ageOneHour_19 : decode cX0_ageOneHour 19 = .ok (.istore 7, 2) := by decide +kernel
theorem dX0_ageOneHour_21 : decode cX0_ageOneHour 21 = .ok (.iload 7, 2) := by decide +kernel
theorem dX0_ageOneHour_23 : decode cX0_ageOneHour 23 = .ok (.aload_n 2, 1) := by decide +kernel
theorem dX0_ageOneHour_24 : decode cX0_ageOneHour 24 = .ok (.getfield 64, 3) := by decide +kernel
theorem dX0_ageOneHour_27 : decode cX0_ageOneHour 27 = .ok (.if_icmp .ge 112, 3) := by decide +kernel
theorem dX0_ageOneHour_30 : decode cX0_ageOneHour 30 = .ok (.aload_n 0, 1) := by decide +kernel
theorem dX0_ageOneHour_31 : decode cX0_ageOneHour 31 = .ok (.iload_n 1, 1) := by decide +kernel
theorem dX0_ageOneHour_32 : decode cX0_ageOneHour 32 = .ok (.iconst 1, 1) := by decide +kernel
theorem dX0_ageOneHour_33 : decode cX0_ageOneHour 33 = .ok (.isub, 1) := by decide +kernel
theorem dX0_ageOneHour_34 : decode cX0_ageOneHour 34 = .ok (.iload 7, 2) := by decide +kernel
theorem dX0_ageOneHour_36 : decode cX0_ageOneHour 36 = .ok (.invokevirtual 67, 3) := by decide +kernel
theorem dX0_ageOneHour_39 : decode cX0_ageOneHour 39 = .ok (.istore 8, 2) := by decide +kernel
theorem dX0_ageOneHour_41 : decode cX0_ageOneHour 41 = .ok (.iload 8, 2) := by decide +kernel
theorem dX0_ageOneHour_43 : decode cX0_ageOneHour 43 = .ok (.ifCond .le 76, 3) := by decide +kernel
theorem dX0_ageOneHour_46 : decode cX0_ageOneHour 46 = .ok (.aload_n 0, 1) := by decide +kernel
theorem dX0_ageOneHour_47 : decode cX0_ageOneHour 47 = .ok (.iload 8, 2) := by decide +kernel
theorem dX0_ageOneHour_49 : decode cX0_ageOneHour 49 = .ok (.iload_n 1, 1) := by decide +kernel
theorem dX0_ageOneHour_50 : decode cX0_ageOneHour 50 = .ok (.aload 5, 2) := by decide +kernel
theorem dX0_ageOneHour_52 : decode cX0_ageOneHour 52 = .ok (.aload_n 2, 1) := by decide +kernel
theorem dX0_ageOneHour_53 : decode cX0_ageOneHour 53 = .ok (.iload 7, 2) := by decide +kernel
theorem dX0_ageOneHour_55 : decode cX0_ageOneHour 55 = .ok (.invokevirtual 70, 3) := by decide +kernel
theorem dX0_ageOneHour_58 : decode cX0_ageOneHour 58 = .ok (.aload_n 2, 1) := by decide +kernel
theorem dX0_ageOneHour_59 : decode cX0_ageOneHour 59 = .ok (.getfield 74, 3) := by decide +kernel
theorem dX0_ageOneHour_62 : decode cX0_ageOneHour 62 = .ok (.aload_n 2, 1) := by decide +kernel
theorem dX0_ageOneHour_63 : decode cX0_ageOneHour 63 = .ok (.getfield 77, 3) := by decide +kernel
theorem dX0_ageOneHour_66 : decode cX0_ageOneHour 66 = .ok (.iload 7, 2) := by decide +kernel
theorem dX0_ageOneHour_68 : decode cX0_ageOneHour 68 = .ok (.iaload, 1) := by decide +kernel
theorem dX0_ageOneHour_69 : decode cX0_ageOneHour 69 = .ok (.iaload, 1) := by decide +kernel
theorem dX0_ageOneHour_70 : decode cX0_ageOneHour 70 = .ok (.aload 4, 2) := by decide +kernel
theorem dX0_ageOneHour_72 : decode cX0_ageOneHour 72 = .ok (.invokevirtual 80, 3) := by decide +kernel
theorem dX0_ageOneHour_75 : decode cX0_ageOneHour 75 = .ok (.iload 8, 2) := by decide +kernel
theorem dX0_ageOneHour_77 : decode cX0_ageOneHour 77 = .ok (.iconst 0, 1) := by decide +kernel
theorem dX0_ageOneHour_78 : decode cX0_ageOneHour 78 = .ok (.iload 8, 2) := by decide +kernel
theorem dX0_ageOneHour_80 : decode cX0_ageOneHour 80 = .ok (.aload_n 3, 1) := by decide +kernel
theorem dX0_ageOneHour_81 : decode cX0_ageOneHour 81 = .ok (.aload_n 0, 1) := by decide +kernel
theorem dX0_ageOneHour_82 : decode cX0_ageOneHour 82 = .ok (.getfield 18, 3) := by decide +kernel
theorem dX0_ageOneHour_85 : decode cX0_ageOneHour 85 = .ok (.aload_n 0, 1) := by decide +kernel
theorem dX0_ageOneHour_86 : decode cX0_ageOneHour 86 = .ok (.getfield 21, 3) := by decide +kernel
theorem dX0_ageOneHour_89 : decode cX0_ageOneHour 89 = .ok (.invokevirtual 84, 3) := by decide +kernel
theorem dX0_ageOneHour_92 : decode cX0_ageOneHour 92 = .ok (.invokestatic 48, 3) := by decide +kernel
theorem dX0_ageOneHour_95 : decode cX0_ageOneHour 95 = .ok (.invokestatic 90, 3) := by decide +kernel
theorem dX0_ageOneHour_98 : decode cX0_ageOneHour 98 = .ok (.isub, 1) := by decide +kernel
theorem dX0_ageOneHour_99 : decode cX0_ageOneHour 99 = .ok (.istore 8, 2) := by decide +kernel
theorem dX0_ageOneHour_101 : decode cX0_ageOneHour 101 = .ok (.iload 6, 2) := by decide +kernel
theorem dX0_ageOneHour_103 : decode cX0_ageOneHour 103 = .ok (.iload 8, 2) := by decide +kernel
theorem dX0_ageOneHour_105 : decode cX0_ageOneHour 105 = .ok (.ifCond .ne 10, 3) := by decide +kernel
theorem dX0_ageOneHour_108 : decode cX0_ageOneHour 108 = .ok (.iconst 1, 1) := by decide +kernel
theorem dX0_ageOneHour_109 : decode cX0_ageOneHour 109 = .ok (.iload 7, 2) := by decide +kernel
theorem dX0_ageOneHour_111 : decode cX0_ageOneHour 111 = .ok (.ishl, 1) := by decide +kernel
theorem dX0_ageOneHour_112 : decode cX0_ageOneHour 112 = .ok (.goto 4, 3) := by decide +kernel
theorem dX0_ageOneHour_115 : decode cX0_ageOneHour 115 = .ok (.iconst 0, 1) := by decide +kernel
theorem dX0_ageOneHour_116 : decode cX0_ageOneHour 116 = .ok (.ior, 1) := by decide +kernel
theorem dX0_ageOneHour_117 : decode cX0_ageOneHour 117 = .ok (.istore 6, 2) := by decide +kernel
theorem dX0_ageOneHour_119 : decode cX0_ageOneHour 119 = .ok (.aload_n 0, 1) := by decide +kernel
theorem dX0_ageOneHour_120 : decode cX0_ageOneHour 120 = .ok (.getfield 15, 3) := by decide +kernel
theorem dX0_ageOneHour_123 : decode cX0_ageOneHour 123 = .ok (.iload_n 1, 1) := by decide +kernel
theorem dX0_ageOneHour_124 : decode cX0_ageOneHour 124 = .ok (.bipush 24, 2) := by decide +kernel
theorem dX0_ageOneHour_126 : decode cX0_ageOneHour 126 = .ok (.imul, 1) := by decide +kernel
theorem dX0_ageOneHour_127 : decode cX0_ageOneHour 127 = .ok (.iload 7, 2) := by decide +kernel
theorem dX0_ageOneHour_129 : decode cX0_ageOneHour 129 = .ok (.iadd, 1) := by decide +kernel
theorem dX0_ageOneHour_130 : decode cX0_ageOneHour 130 = .ok (.iload 8, 2) := by decide +kernel
theorem dX0_ageOneHour_132 : decode cX0_ageOneHour 132 = .ok (.iastore, 1) := by decide +kernel
theorem dX0_ageOneHour_133 : decode cX0_ageOneHour 133 = .ok (.iinc 7 1, 3) := by decide +kernel
theorem dX0_ageOneHour_136 : decode cX0_ageOneHour 136 = .ok (.goto (-115), 3) := by decide +kernel
theorem dX0_ageOneHour_139 : decode cX0_ageOneHour 139 = .ok (.aload_n 0, 1) := by decide +kernel
theorem dX0_ageOneHour_140 : decode cX0_ageOneHour 140 = .ok (.getfield 9, 3) := by decide +kernel
theorem dX0_ageOneHour_143 : decode cX0_ageOneHour 143 = .ok (.iload_n 1, 1) := by decide +kernel
theorem dX0_ageOneHour_144 : decode cX0_ageOneHour 144 = .ok (.iload 6, 2) := by decide +kernel
theorem dX0_ageOneHour_146 : decode cX0_ageOneHour 146 = .ok (.aload_n 0, 1) := by decide +kernel
theorem dX0_ageOneHour_147 : decode cX0_ageOneHour 147 = .ok (.getfield 9, 3) := by decide +kernel
theorem dX0_ageOneHour_150 : decode cX0_ageOneHour 150 = .ok (.iload_n 1, 1) := by decide +kernel
theorem dX0_ageOneHour_151 : decode cX0_ageOneHour 151 = .ok (.iconst 1, 1) := by decide +kernel
theorem dX0_ageOneHour_152 : decode cX0_ageOneHour 152 = .ok (.isub, 1) := by decide +kernel
theorem dX0_ageOneHour_153 : decode cX0_ageOneHour 153 = .ok (.iaload, 1) := by decide +kernel
theorem dX0_ageOneHour_154 : decode cX0_ageOneHour 154 = .ok (.if_icmp .ne 8, 3) := by decide +kernel
theorem dX0_ageOneHour_157 : decode cX0_ageOneHour 157 = .ok (.iload 6, 2) := by decide +kernel
theorem dX0_ageOneHour_159 : decode cX0_ageOneHour 159 = .ok (.goto 11, 3) := by decide +kernel
theorem dX0_ageOneHour_162 : decode cX0_ageOneHour 162 = .ok (.aload 5, 2) := by decide +kernel
theorem dX0_ageOneHour_164 : decode cX0_ageOneHour 164 = .ok (.aload_n 2, 1) := by decide +kernel
theorem dX0_ageOneHour_165 : decode cX0_ageOneHour 165 = .ok (.iload 6, 2) := by decide +kernel
theorem dX0_ageOneHour_167 : decode cX0_ageOneHour 167 = .ok (.invokevirtual 93, 3) := by decide +kernel
theorem dX0_ageOneHour_170 : decode cX0_ageOneHour 170 = .ok (.iastore, 1) := by decide +kernel
theorem dX0_ageOneHour_171 : decode cX0_ageOneHour 171 = .ok (.aload_n 0, 1) := by decide +kernel
theorem dX0_ageOneHour_172 : decode cX0_ageOneHour 172 = .ok (.aload_n 2, 1) := by decide +kernel
theorem dX0_ageOneHour_173 : decode cX0_ageOneHour 173 = .ok (.getfield 64, 3) := by decide +kernel
theorem dX0_ageOneHour_176 : decode cX0_ageOneHour 176 = .ok (.iload_n 1, 1) := by decide +kernel
theorem dX0_ageOneHour_177 : decode cX0_ageOneHour 177 = .ok (.invokevirtual 96, 3) := by decide +kernel
theorem dX0_ageOneHour_180 : decode cX0_ageOneHour 180 = .ok (.return_, 1) := by decide +kernel
theorem dX0_clearLost_0 : decode cX0_clearLost 0 = .ok (.iconst 0, 1) := by decide +kernel
theorem dX0_clearLost_1 : decode cX0_clearLost 1 = .ok (.istore_n 3, 1) := by decide +kernel
theorem dX0_clearLost_2 : decode cX0_clearLost 2 = .ok (.iload_n 3, 1) := by decide +kernel
theorem dX0_clearLost_3 : decode cX0_clearLost 3 = .ok (.iload_n 1, 1) := by decide +kernel
theorem dX0_clearLost_4 : decode cX0_clearLost 4 = .ok (.if_icmp .ge 34, 3) := by decide +kernel
theorem dX0_clearLost_7 : decode cX0_clearLost 7 = .ok (.aload_n 0, 1) := by decide +kernel
theorem dX0_clearLost_8 : decode cX0_clearLost 8 = .ok (.getfield 9, 3) := by decide +kernel
theorem dX0_clearLost_11 : decode cX0_clearLost 11 = .ok (.iload_n 2, 1) := by decide +kernel
theorem dX0_clearLost_12 : decode cX0_clearLost 12 = .ok (.iaload, 1) := by decide +kernel
theorem dX0_clearLost_13 : decode cX0_clearLost 13 = .ok (.iconst 1, 1) := by decide +kernel
theorem dX0_clearLost_14 : decode cX0_clearLost 14 = .ok (.iload_n 3, 1) := by decide +kernel
theorem dX0_clearLost_15 : decode cX0_clearLost 15 = .ok (.ishl, 1) := by decide +kernel
theorem dX0_clearLost_16 : decode cX0_clearLost 16 = .ok (.iand, 1) := by decide +kernel
theorem dX0_clearLost_17 : decode cX0_clearLost 17 = .ok (.ifCond .eq 15, 3) := by decide +kernel
theorem dX0_clearLost_20 : decode cX0_clearLost 20 = .ok (.aload_n 0, 1) := by decide +kernel
theorem dX0_clearLost_21 : decode cX0_clearLost 21 = .ok (.getfield 15, 3) := by decide +kernel
theorem dX0_clearLost_24 : decode cX0_clearLost 24 = .ok (.iload_n 2, 1) := by decide +kernel
theorem dX0_clearLost_25 : decode cX0_clearLost 25 = .ok (.bipush 24, 2) := by decide +kernel
theorem dX0_clearLost_27 : decode cX0_clearLost 27 = .ok (.imul, 1) := by decide +kernel
theorem dX0_clearLost_28 : decode cX0_clearLost 28 = .ok (.iload_n 3, 1) := by decide +kernel
theorem dX0_clearLost_29 : decode cX0_clearLost 29 = .ok (.iadd, 1) := by decide +kernel
theorem dX0_clearLost_30 : decode cX0_clearLost 30 = .ok (.iconst 0, 1) := by decide +kernel
theorem dX0_clearLost_31 : decode cX0_clearLost 31 = .ok (.iastore, 1) := by decide +kernel
theorem dX0_clearLost_32 : decode cX0_clearLost 32 = .ok (.iinc 3 1, 3) := by decide +kernel
theorem dX0_clearLost_35 : decode cX0_clearLost 35 = .ok (.goto (-33), 3) := by decide +kernel
theorem dX0_clearLost_38 : decode cX0_clearLost 38 = .ok (.return_, 1) := by decide +kernel
theorem dX0_tellLetters_0 : decode cX0_tellLetters 0 = .ok (.aload_n 0, 1) := by decide +kernel
theorem dX0_tellLetters_1 : decode cX0_tellLetters 1 = .ok (.getfield 18, 3) := by decide +kernel
theorem dX0_tellLetters_4 : decode cX0_tellLetters 4 = .ok (.iconst 0, 1) := by decide +kernel
theorem dX0_tellLetters_5 : decode cX0_tellLetters 5 = .ok (.iload_n 1, 1) := by decide +kernel
theorem dX0_tellLetters_6 : decode cX0_tellLetters 6 = .ok (.iastore, 1) := by decide +kernel
theorem dX0_tellLetters_7 : decode cX0_tellLetters 7 = .ok (.aload_n 0, 1) := by decide +kernel
theorem dX0_tellLetters_8 : decode cX0_tellLetters 8 = .ok (.getfield 18, 3) := by decide +kernel
theorem dX0_tellLetters_11 : decode cX0_tellLetters 11 = .ok (.iconst 1, 1) := by decide +kernel
theorem dX0_tellLetters_12 : decode cX0_tellLetters 12 = .ok (.iload_n 2, 1) := by decide +kernel
theorem dX0_tellLetters_13 : decode cX0_tellLetters 13 = .ok (.iastore, 1) := by decide +kernel
theorem dX0_tellLetters_14 : decode cX0_tellLetters 14 = .ok (.aload_n 0, 1) := by decide +kernel
theorem dX0_tellLetters_15 : decode cX0_tellLetters 15 = .ok (.getfield 18, 3) := by decide +kernel
theorem dX0_tellLetters_18 : decode cX0_tellLetters 18 = .ok (.iconst 2, 1) := by decide +kernel
theorem dX0_tellLetters_19 : decode cX0_tellLetters 19 = .ok (.iload_n 3, 1) := by decide +kernel
theorem dX0_tellLetters_20 : decode cX0_tellLetters 20 = .ok (.iastore, 1) := by decide +kernel
theorem dX0_tellLetters_21 : decode cX0_tellLetters 21 = .ok (.aload_n 0, 1) := by decide +kernel
theorem dX0_tellLetters_22 : decode cX0_tellLetters 22 = .ok (.getfield 18, 3) := by decide +kernel
theorem dX0_tellLetters_25 : decode cX0_tellLetters 25 = .ok (.iconst 3, 1) := by decide +kernel
theorem dX0_tellLetters_26 : decode cX0_tellLetters 26 = .ok (.aload 5, 2) := by decide +kernel
theorem dX0_tellLetters_28 : decode cX0_tellLetters 28 = .ok (.getfield 100, 3) := by decide +kernel
theorem dX0_tellLetters_31 : decode cX0_tellLetters 31 = .ok (.iload 4, 2) := by decide +kernel
theorem dX0_tellLetters_33 : decode cX0_tellLetters 33 = .ok (.iaload, 1) := by decide +kernel
theorem dX0_tellLetters_34 : decode cX0_tellLetters 34 = .ok (.iastore, 1) := by decide +kernel
theorem dX0_tellLetters_35 : decode cX0_tellLetters 35 = .ok (.aload_n 0, 1) := by decide +kernel
theorem dX0_tellLetters_36 : decode cX0_tellLetters 36 = .ok (.getfield 18, 3) := by decide +kernel
theorem dX0_tellLetters_39 : decode cX0_tellLetters 39 = .ok (.iconst 4, 1) := by decide +kernel
theorem dX0_tellLetters_40 : decode cX0_tellLetters 40 = .ok (.aload 5, 2) := by decide +kernel
theorem dX0_tellLetters_42 : decode cX0_tellLetters 42 = .ok (.getfield 105, 3) := by decide +kernel
theorem dX0_tellLetters_45 : decode cX0_tellLetters 45 = .ok (.iload 4, 2) := by decide +kernel
theorem dX0_tellLetters_47 : decode cX0_tellLetters 47 = .ok (.iaload, 1) := by decide +kernel
theorem dX0_tellLetters_48 : decode cX0_tellLetters 48 = .ok (.iastore, 1) := by decide +kernel
theorem dX0_tellLetters_49 : decode cX0_tellLetters 49 = .ok (.return_, 1) := by decide +kernel
theorem dX1_init_0 : decode cX1_init 0 = .ok (.aload_n 0, 1) := by decide +kernel
theorem dX1_init_1 : decode cX1_init 1 = .ok (.invokespecial 3, 3) := by decide +kernel
theorem dX1_init_4 : decode cX1_init 4 = .ok (.aload_n 0, 1) := by decide +kernel
theorem dX1_init_5 : decode cX1_init 5 = .ok (.bipush 6, 2) := by decide +kernel
theorem dX1_init_7 : decode cX1_init 7 = .ok (.newarray .int, 2) := by decide +kernel
theorem dX1_init_9 : decode cX1_init 9 = .ok (.putfield 9, 3) := by decide +kernel
theorem dX1_init_12 : decode cX1_init 12 = .ok (.aload_n 0, 1) := by decide +kernel
theorem dX1_init_13 : decode cX1_init 13 = .ok (.bipush 24, 2) := by decide +kernel
theorem dX1_init_15 : decode cX1_init 15 = .ok (.newarray .int, 2) := by decide +kernel
theorem dX1_init_17 : decode cX1_init 17 = .ok (.putfield 15, 3) := by decide +kernel
theorem dX1_init_20 : decode cX1_init 20 = .ok (.aload_n 0, 1) := by decide +kernel
theorem dX1_init_21 : decode cX1_init 21 = .ok (.bipush 24, 2) := by decide +kernel
theorem dX1_init_23 : decode cX1_init 23 = .ok (.newarray .int, 2) := by decide +kernel
theorem dX1_init_25 : decode cX1_init 25 = .ok (.putfield 18, 3) := by decide +kernel
theorem dX1_init_28 : decode cX1_init 28 = .ok (.aload_n 0, 1) := by decide +kernel
theorem dX1_init_29 : decode cX1_init 29 = .ok (.bipush 24, 2) := by decide +kernel
theorem dX1_init_31 : decode cX1_init 31 = .ok (.newarray .int, 2) := by decide +kernel
theorem dX1_init_33 : decode cX1_init 33 = .ok (.putfield 21, 3) := by decide +kernel
theorem dX1_init_36 : decode cX1_init 36 = .ok (.aload_n 0, 1) := by decide +kernel
theorem dX1_init_37 : decode cX1_init 37 = .ok (.bipush 24, 2) := by decide +kernel
theorem dX1_init_39 : decode cX1_init 39 = .ok (.newarray .int, 2) := by decide +kernel
theorem dX1_init_41 : decode cX1_init 41 = .ok (.putfield 24, 3) := by decide +kernel
theorem dX1_init_44 : decode cX1_init 44 = .ok (.aload_n 0, 1) := by decide +kernel
theorem dX1_init_45 : decode cX1_init 45 = .ok (.bipush 30, 2) := by decide +kernel
theorem dX1_init_47 : decode cX1_init 47 = .ok (.newarray .int, 2) := by decide +kernel
theorem dX1_init_49 : decode cX1_init 49 = .ok (.putfield 27, 3) := by decide +kernel
theorem dX1_init_52 : decode cX1_init 52 = .ok (.return_, 1) := by decide +kernel
theorem dX1_clear_0 : decode cX1_clear 0 = .ok (.aload_n 0, 1) := by decide +kernel
theorem dX1_clear_1 : decode cX1_clear 1 = .ok (.getfield 27, 3) := by decide +kernel
theorem dX1_clear_4 : decode cX1_clear 4 = .ok (.iconst 0, 1) := by decide +kernel
theorem dX1_clear_5 : decode cX1_clear 5 = .ok (.invokestatic 30, 3) := by decide +kernel
theorem dX1_clear_8 : decode cX1_clear 8 = .ok (.aload_n 0, 1) := by decide +kernel
theorem dX1_clear_9 : decode cX1_clear 9 = .ok (.iconst 0, 1) := by decide +kernel
theorem dX1_clear_10 : decode cX1_clear 10 = .ok (.putfield 36, 3) := by decide +kernel
theorem dX1_clear_13 : decode cX1_clear 13 = .ok (.aload_n 0, 1) := by decide +kernel
theorem dX1_clear_14 : decode cX1_clear 14 = .ok (.iconst 0, 1) := by decide +kernel
theorem dX1_clear_15 : decode cX1_clear 15 = .ok (.putfield 40, 3) := by decide +kernel
theorem dX1_clear_18 : decode cX1_clear 18 = .ok (.aload_n 0, 1) := by decide +kernel
theorem dX1_clear_19 : decode cX1_clear 19 = .ok (.iconst 0, 1) := by decide +kernel
theorem dX1_clear_20 : decode cX1_clear 20 = .ok (.putfield 43, 3) := by decide +kernel
theorem dX1_clear_23 : decode cX1_clear 23 = .ok (.aload_n 0, 1) := by decide +kernel
theorem dX1_clear_24 : decode cX1_clear 24 = .ok (.iconst 0, 1) := by decide +kernel
theorem dX1_clear_25 : decode cX1_clear 25 = .ok (.putfield 46, 3) := by decide +kernel
theorem dX1_clear_28 : decode cX1_clear 28 = .ok (.return_, 1) := by decide +kernel
theorem dX1_copy_0 : decode cX1_copy 0 = .ok (.aload_n 1, 1) := by decide +kernel
theorem dX1_copy_1 : decode cX1_copy 1 = .ok (.getfield 9, 3) := by decide +kernel
theorem dX1_copy_4 : decode cX1_copy 4 = .ok (.iconst 0, 1) := by decide +kernel
theorem dX1_copy_5 : decode cX1_copy 5 = .ok (.aload_n 0, 1) := by decide +kernel
theorem dX1_copy_6 : decode cX1_copy 6 = .ok (.getfield 9, 3) := by decide +kernel
theorem dX1_copy_9 : decode cX1_copy 9 = .ok (.iconst 0, 1) := by decide +kernel
theorem dX1_copy_10 : decode cX1_copy 10 = .ok (.bipush 6, 2) := by decide +kernel
theorem dX1_copy_12 : decode cX1_copy 12 = .ok (.invokestatic 49, 3) := by decide +kernel
theorem dX1_copy_15 : decode cX1_copy 15 = .ok (.aload_n 1, 1) := by decide +kernel
theorem dX1_copy_16 : decode cX1_copy 16 = .ok (.getfield 15, 3) := by decide +kernel
theorem dX1_copy_19 : decode cX1_copy 19 = .ok (.iconst 0, 1) := by decide +kernel
theorem dX1_copy_20 : decode cX1_copy 20 = .ok (.aload_n 0, 1) := by decide +kernel
theorem dX1_copy_21 : decode cX1_copy 21 = .ok (.getfield 15, 3) := by decide +kernel
theorem dX1_copy_24 : decode cX1_copy 24 = .ok (.iconst 0, 1) := by decide +kernel
theorem dX1_copy_25 : decode cX1_copy 25 = .ok (.bipush 24, 2) := by decide +kernel
theorem dX1_copy_27 : decode cX1_copy 27 = .ok (.invokestatic 49, 3) := by decide +kernel
theorem dX1_copy_30 : decode cX1_copy 30 = .ok (.aload_n 1, 1) := by decide +kernel
theorem dX1_copy_31 : decode cX1_copy 31 = .ok (.getfield 18, 3) := by decide +kernel
theorem dX1_copy_34 : decode cX1_copy 34 = .ok (.iconst 0, 1) := by decide +kernel
theorem dX1_copy_35 : decode cX1_copy 35 = .ok (.aload_n 0, 1) := by decide +kernel
theorem dX1_copy_36 : decode cX1_copy 36 = .ok (.getfield 18, 3) := by decide +kernel
theorem dX1_copy_39 : decode cX1_copy 39 = .ok (.iconst 0, 1) := by decide +kernel
theorem dX1_copy_40 : decode cX1_copy 40 = .ok (.bipush 24, 2) := by decide +kernel
theorem dX1_copy_42 : decode cX1_copy 42 = .ok (.invokestatic 49, 3) := by decide +kernel
theorem dX1_copy_45 : decode cX1_copy 45 = .ok (.aload_n 1, 1) := by decide +kernel
theorem dX1_copy_46 : decode cX1_copy 46 = .ok (.getfield 21, 3) := by decide +kernel
theorem dX1_copy_49 : decode cX1_copy 49 = .ok (.iconst 0, 1) := by decide +kernel
theorem dX1_copy_50 : decode cX1_copy 50 = .ok (.aload_n 0, 1) := by decide +kernel
theorem dX1_copy_51 : decode cX1_copy 51 = .ok (.getfield 21, 3) := by decide +kernel
theorem dX1_copy_54 : decode cX1_copy 54 = .ok (.iconst 0, 1) := by decide +kernel
theorem dX1_copy_55 : decode cX1_copy 55 = .ok (.bipush 24, 2) := by decide +kernel
theorem dX1_copy_57 : decode cX1_copy 57 = .ok (.invokestatic 49, 3) := by decide +kernel
theorem dX1_copy_60 : decode cX1_copy 60 = .ok (.aload_n 1, 1) := by decide +kernel
theorem dX1_copy_61 : decode cX1_copy 61 = .ok (.getfield 24, 3) := by decide +kernel
theorem dX1_copy_64 : decode cX1_copy 64 = .ok (.iconst 0, 1) := by decide +kernel
theorem dX1_copy_65 : decode cX1_copy 65 = .ok (.aload_n 0, 1) := by decide +kernel
theorem dX1_copy_66 : decode cX1_copy 66 = .ok (.getfield 24, 3) := by decide +kernel
theorem dX1_copy_69 : decode cX1_copy 69 = .ok (.iconst 0, 1) := by decide +kernel
theorem dX1_copy_70 : decode cX1_copy 70 = .ok (.bipush 24, 2) := by decide +kernel
theorem dX1_copy_72 : decode cX1_copy 72 = .ok (.invokestatic 49, 3) := by decide +kernel
theorem dX1_copy_75 : decode cX1_copy 75 = .ok (.aload_n 1, 1) := by decide +kernel
theorem dX1_copy_76 : decode cX1_copy 76 = .ok (.getfield 27, 3) := by decide +kernel
theorem dX1_copy_79 : decode cX1_copy 79 = .ok (.iconst 0, 1) := by decide +kernel
theorem dX1_copy_80 : decode cX1_copy 80 = .ok (.aload_n 0, 1) := by decide +kernel
theorem dX1_copy_81 : decode cX1_copy 81 = .ok (.getfield 27, 3) := by decide +kernel
theorem dX1_copy_84 : decode cX1_copy 84 = .ok (.iconst 0, 1) := by decide +kernel
theorem dX1_copy_85 : decode cX1_copy 85 = .ok (.bipush 30, 2) := by decide +kernel
theorem dX1_copy_87 : decode cX1_copy 87 = .ok (.invokestatic 49, 3) := by decide +kernel
theorem dX1_copy_90 : decode cX1_copy 90 = .ok (.aload_n 0, 1) := by decide +kernel
theorem dX1_copy_91 : decode cX1_copy 91 = .ok (.aload_n 1, 1) := by decide +kernel
theorem dX1_copy_92 : decode cX1_copy 92 = .ok (.getfield 36, 3) := by decide +kernel
theorem dX1_copy_95 : decode cX1_copy 95 = .ok (.putfield 36, 3) := by decide +kernel
theorem dX1_copy_98 : decode cX1_copy 98 = .ok (.aload_n 0, 1) := by decide +kernel
theorem dX1_copy_99 : decode cX1_copy 99 = .ok (.aload_n 1, 1) := by decide +kernel
theorem dX1_copy_100 : decode cX1_copy 100 = .ok (.getfield 40, 3) := by decide +kernel
theorem dX1_copy_103 : decode cX1_copy 103 = .ok (.putfield 40, 3) := by decide +kernel
theorem dX1_copy_106 : decode cX1_copy 106 = .ok (.aload_n 0, 1) := by decide +kernel
theorem dX1_copy_107 : decode cX1_copy 107 = .ok (.aload_n 1, 1) := by decide +kernel
theorem dX1_copy_108 : decode cX1_copy 108 = .ok (.getfield 43, 3) := by decide +kernel
theorem dX1_copy_111 : decode cX1_copy 111 = .ok (.putfield 43, 3) := by decide +kernel
theorem dX1_copy_114 : decode cX1_copy 114 = .ok (.aload_n 0, 1) := by decide +kernel
theorem dX1_copy_115 : decode cX1_copy 115 = .ok (.aload_n 1, 1) := by decide +kernel
theorem dX1_copy_116 : decode cX1_copy 116 = .ok (.getfield 46, 3) := by decide +kernel
theorem dX1_copy_119 : decode cX1_copy 119 = .ok (.putfield 46, 3) := by decide +kernel
theorem dX1_copy_122 : decode cX1_copy 122 = .ok (.return_, 1) := by decide +kernel
theorem dX1_hasBalloon_0 : decode cX1_hasBalloon 0 = .ok (.iload_n 1, 1) := by decide +kernel
theorem dX1_hasBalloon_1 : decode cX1_hasBalloon 1 = .ok (.ifCond .lt 15, 3) := by decide +kernel
theorem dX1_hasBalloon_4 : decode cX1_hasBalloon 4 = .ok (.iload_n 1, 1) := by decide +kernel
theorem dX1_hasBalloon_5 : decode cX1_hasBalloon 5 = .ok (.aload_n 0, 1) := by decide +kernel
theorem dX1_hasBalloon_6 : decode cX1_hasBalloon 6 = .ok (.getfield 36, 3) := by decide +kernel
theorem dX1_hasBalloon_9 : decode cX1_hasBalloon 9 = .ok (.if_icmp .ge 7, 3) := by decide +kernel
theorem dX1_hasBalloon_12 : decode cX1_hasBalloon 12 = .ok (.iconst 1, 1) := by decide +kernel
theorem dX1_hasBalloon_13 : decode cX1_hasBalloon 13 = .ok (.goto 4, 3) := by decide +kernel
theorem dX1_hasBalloon_16 : decode cX1_hasBalloon 16 = .ok (.iconst 0, 1) := by decide +kernel
theorem dX1_hasBalloon_17 : decode cX1_hasBalloon 17 = .ok (.ireturn, 1) := by decide +kernel
theorem dX1_hasBubble_0 : decode cX1_hasBubble 0 = .ok (.iload_n 1, 1) := by decide +kernel
theorem dX1_hasBubble_1 : decode cX1_hasBubble 1 = .ok (.ifCond .lt 15, 3) := by decide +kernel
theorem dX1_hasBubble_4 : decode cX1_hasBubble 4 = .ok (.iload_n 1, 1) := by decide +kernel
theorem dX1_hasBubble_5 : decode cX1_hasBubble 5 = .ok (.aload_n 0, 1) := by decide +kernel
theorem dX1_hasBubble_6 : decode cX1_hasBubble 6 = .ok (.getfield 40, 3) := by decide +kernel
theorem dX1_hasBubble_9 : decode cX1_hasBubble 9 = .ok (.if_icmp .ge 7, 3) := by decide +kernel
theorem dX1_hasBubble_12 : decode cX1_hasBubble 12 = .ok (.iconst 1, 1) := by decide +kernel
theorem dX1_hasBubble_13 : decode cX1_hasBubble 13 = .ok (.goto 4, 3) := by decide +kernel
theorem dX1_hasBubble_16 : decode cX1_hasBubble 16 = .ok (.iconst 0, 1) := by decide +kernel
theorem dX1_hasBubble_17 : decode cX1_hasBubble 17 = .ok (.ireturn, 1) := by decide +kernel
theorem dX1_hasPoint_0 : decode cX1_hasPoint 0 = .ok (.iload_n 1, 1) := by decide +kernel
theorem dX1_hasPoint_1 : decode cX1_hasPoint 1 = .ok (.ifCond .lt 15, 3) := by decide +kernel
theorem dX1_hasPoint_4 : decode cX1_hasPoint 4 = .ok (.iload_n 1, 1) := by decide +kernel
theorem dX1_hasPoint_5 : decode cX1_hasPoint 5 = .ok (.aload_n 0, 1) := by decide +kernel
theorem dX1_hasPoint_6 : decode cX1_hasPoint 6 = .ok (.getfield 43, 3) := by decide +kernel
theorem dX1_hasPoint_9 : decode cX1_hasPoint 9 = .ok (.if_icmp .ge 7, 3) := by decide +kernel
theorem dX1_hasPoint_12 : decode cX1_hasPoint 12 = .ok (.iconst 1, 1) := by decide +kernel
theorem dX1_hasPoint_13 : decode cX1_hasPoint 13 = .ok (.goto 4, 3) := by decide +kernel
theorem dX1_hasPoint_16 : decode cX1_hasPoint 16 = .ok (.iconst 0, 1) := by decide +kernel
theorem dX1_hasPoint_17 : decode cX1_hasPoint 17 = .ok (.ireturn, 1) := by decide +kernel
theorem dX1_allBubbles_0 : decode cX1_allBubbles 0 = .ok (.iconst 1, 1) := by decide +kernel
theorem dX1_allBubbles_1 : decode cX1_allBubbles 1 = .ok (.aload_n 0, 1) := by decide +kernel
theorem dX1_allBubbles_2 : decode cX1_allBubbles 2 = .ok (.getfield 40, 3) := by decide +kernel
theorem dX1_allBubbles_5 : decode cX1_allBubbles 5 = .ok (.ishl, 1) := by decide +kernel
theorem dX1_allBubbles_6 : decode cX1_allBubbles 6 = .ok (.iconst 1, 1) := by decide +kernel
theorem dX1_allBubbles_7 : decode cX1_allBubbles 7 = .ok (.isub, 1) := by decide +kernel
theorem dX1_allBubbles_8 : decode cX1_allBubbles 8 = .ok (.ireturn, 1) := by decide +kernel
theorem dX1_endBits_0 : decode cX1_endBits 0 = .ok (.iconst 1, 1) := by decide +kernel
theorem dX1_endBits_1 : decode cX1_endBits 1 = .ok (.aload_n 0, 1) := by decide +kernel
theorem dX1_endBits_2 : decode cX1_endBits 2 = .ok (.getfield 18, 3) := by decide +kernel
theorem dX1_endBits_5 : decode cX1_endBits 5 = .ok (.iload_n 1, 1) := by decide +kernel
theorem dX1_endBits_6 : decode cX1_endBits 6 = .ok (.iaload, 1) := by decide +kernel
theorem dX1_endBits_7 : decode cX1_endBits 7 = .ok (.ishl, 1) := by decide +kernel
theorem dX1_endBits_8 : decode cX1_endBits 8 = .ok (.iconst 1, 1) := by decide +kernel
theorem dX1_endBits_9 : decode cX1_endBits 9 = .ok (.aload_n 0, 1) := by decide +kernel
theorem dX1_endBits_10 : decode cX1_endBits 10 = .ok (.getfield 21, 3) := by decide +kernel
theorem dX1_endBits_13 : decode cX1_endBits 13 = .ok (.iload_n 1, 1) := by decide +kernel
theorem dX1_endBits_14 : decode cX1_endBits 14 = .ok (.iaload, 1) := by decide +kernel
theorem dX1_endBits_15 : decode cX1_endBits 15 = .ok (.ishl, 1) := by decide +kernel
theorem dX1_endBits_16 : decode cX1_endBits 16 = .ok (.ixor, 1) := by decide +kernel
theorem dX1_endBits_17 : decode cX1_endBits 17 = .ok (.ireturn, 1) := by decide +kernel
theorem dX1_startBalloon_0 : decode cX1_startBalloon 0 = .ok (.aload_n 0, 1) := by decide +kernel
theorem dX1_startBalloon_1 : decode cX1_startBalloon 1 = .ok (.getfield 36, 3) := by decide +kernel
theorem dX1_startBalloon_4 : decode cX1_startBalloon 4 = .ok (.bipush 6, 2) := by decide +kernel
theorem dX1_startBalloon_6 : decode cX1_startBalloon 6 = .ok (.if_icmp .ge 23, 3) := by decide +kernel
theorem dX1_startBalloon_9 : decode cX1_startBalloon 9 = .ok (.aload_n 0, 1) := by decide +kernel
theorem dX1_startBalloon_10 : decode cX1_startBalloon 10 = .ok (.getfield 9, 3) := by decide +kernel
theorem dX1_startBalloon_13 : decode cX1_startBalloon 13 = .ok (.aload_n 0, 1) := by decide +kernel
theorem dX1_startBalloon_14 : decode cX1_startBalloon 14 = .ok (.getfield 36, 3) := by decide +kernel
theorem dX1_startBalloon_17 : decode cX1_startBalloon 17 = .ok (.iload_n 1, 1) := by decide +kernel
theorem dX1_startBalloon_18 : decode cX1_startBalloon 18 = .ok (.iastore, 1) := by decide +kernel
theorem dX1_startBalloon_19 : decode cX1_startBalloon 19 = .ok (.aload_n 0, 1) := by decide +kernel
theorem dX1_startBalloon_20 : decode cX1_startBalloon 20 = .ok (.dup, 1) := by decide +kernel
theorem dX1_startBalloon_21 : decode cX1_startBalloon 21 = .ok (.getfield 36, 3) := by decide +kernel
theorem dX1_startBalloon_24 : decode cX1_startBalloon 24 = .ok (.iconst 1, 1) := by decide +kernel
theorem dX1_startBalloon_25 : decode cX1_startBalloon 25 = .ok (.iadd, 1) := by decide +kernel
theorem dX1_startBalloon_26 : decode cX1_startBalloon 26 = .ok (.putfield 36, 3) := by decide +kernel
theorem dX1_startBalloon_29 : decode cX1_startBalloon 29 = .ok (.return_, 1) := by decide +kernel
theorem dX1_makeBubble_0 : decode cX1_makeBubble 0 = .ok (.aload_n 0, 1) := by decide +kernel
theorem dX1_makeBubble_1 : decode cX1_makeBubble 1 = .ok (.getfield 40, 3) := by decide +kernel
theorem dX1_makeBubble_4 : decode cX1_makeBubble 4 = .ok (.bipush 24, 2) := by decide +kernel
theorem dX1_makeBubble_6 : decode cX1_makeBubble 6 = .ok (.if_icmp .lt 4, 3) := by decide +kernel
theorem dX1_makeBubble_9 : decode cX1_makeBubble 9 = .ok (.return_, 1) := by decide +kernel
theorem dX1_makeBubble_10 : decode cX1_makeBubble 10 = .ok (.aload_n 0, 1) := by decide +kernel
theorem dX1_makeBubble_11 : decode cX1_makeBubble 11 = .ok (.getfield 15, 3) := by decide +kernel
theorem dX1_makeBubble_14 : decode cX1_makeBubble 14 = .ok (.aload_n 0, 1) := by decide +kernel
theorem dX1_makeBubble_15 : decode cX1_makeBubble 15 = .ok (.getfield 40, 3) := by decide +kernel
theorem dX1_makeBubble_18 : decode cX1_makeBubble 18 = .ok (.iload_n 1, 1) := by decide +kernel
theorem dX1_makeBubble_19 : decode cX1_makeBubble 19 = .ok (.iastore, 1) := by decide +kernel
theorem dX1_makeBubble_20 : decode cX1_makeBubble 20 = .ok (.aload_n 0, 1) := by decide +kernel
theorem dX1_makeBubble_21 : decode cX1_makeBubble 21 = .ok (.getfield 18, 3) := by decide +kernel
theorem dX1_makeBubble_24 : decode cX1_makeBubble 24 = .ok (.aload_n 0, 1) := by decide +kernel
theorem dX1_makeBubble_25 : decode cX1_makeBubble 25 = .ok (.getfield 40, 3) := by decide +kernel
theorem dX1_makeBubble_28 : decode cX1_makeBubble 28 = .ok (.iload_n 2, 1) := by decide +kernel
theorem dX1_makeBubble_29 : decode cX1_makeBubble 29 = .ok (.iastore, 1) := by decide +kernel
theorem dX1_makeBubble_30 : decode cX1_makeBubble 30 = .ok (.aload_n 0, 1) := by decide +kernel
theorem dX1_makeBubble_31 : decode cX1_makeBubble 31 = .ok (.getfield 21, 3) := by decide +kernel
theorem dX1_makeBubble_34 : decode cX1_makeBubble 34 = .ok (.aload_n 0, 1) := by decide +kernel
theorem dX1_makeBubble_35 : decode cX1_makeBubble 35 = .ok (.getfield 40, 3) := by decide +kernel
theorem dX1_makeBubble_38 : decode cX1_makeBubble 38 = .ok (.iload_n 3, 1) := by decide +kernel
theorem dX1_makeBubble_39 : decode cX1_makeBubble 39 = .ok (.iastore, 1) := by decide +kernel
theorem dX1_makeBubble_40 : decode cX1_makeBubble 40 = .ok (.aload_n 0, 1) := by decide +kernel
theorem dX1_makeBubble_41 : decode cX1_makeBubble 41 = .ok (.getfield 24, 3) := by decide +kernel
theorem dX1_makeBubble_44 : decode cX1_makeBubble 44 = .ok (.aload_n 0, 1) := by decide +kernel
theorem dX1_makeBubble_45 : decode cX1_makeBubble 45 = .ok (.getfield 40, 3) := by decide +kernel
theorem dX1_makeBubble_48 : decode cX1_makeBubble 48 = .ok (.aload_n 0, 1) := by decide +kernel
theorem dX1_makeBubble_49 : decode cX1_makeBubble 49 = .ok (.getfield 36, 3) := by decide +kernel
theorem dX1_makeBubble_52 : decode cX1_makeBubble 52 = .ok (.iconst 1, 1) := by decide +kernel
theorem dX1_makeBubble_53 : decode cX1_makeBubble 53 = .ok (.isub, 1) := by decide +kernel
theorem dX1_makeBubble_54 : decode cX1_makeBubble 54 = .ok (.iastore, 1) := by decide +kernel
theorem dX1_makeBubble_55 : decode cX1_makeBubble 55 = .ok (.aload_n 0, 1) := by decide +kernel
theorem dX1_makeBubble_56 : decode cX1_makeBubble 56 = .ok (.getfield 27, 3) := by decide +kernel
theorem dX1_makeBubble_59 : decode cX1_makeBubble 59 = .ok (.iload_n 2, 1) := by decide +kernel
theorem dX1_makeBubble_60 : decode cX1_makeBubble 60 = .ok (.dup2, 1) := by decide +kernel
theorem dX1_makeBubble_61 : decode cX1_makeBubble 61 = .ok (.iaload, 1) := by decide +kernel
theorem dX1_makeBubble_62 : decode cX1_makeBubble 62 = .ok (.iconst 1, 1) := by decide +kernel
theorem dX1_makeBubble_63 : decode cX1_makeBubble 63 = .ok (.iadd, 1) := by decide +kernel
theorem dX1_makeBubble_64 : decode cX1_makeBubble 64 = .ok (.iastore, 1) := by decide +kernel
theorem dX1_makeBubble_65 : decode cX1_makeBubble 65 = .ok (.aload_n 0, 1) := by decide +kernel
theorem dX1_makeBubble_66 : decode cX1_makeBubble 66 = .ok (.getfield 27, 3) := by decide +kernel
theorem dX1_makeBubble_69 : decode cX1_makeBubble 69 = .ok (.iload_n 3, 1) := by decide +kernel
theorem dX1_makeBubble_70 : decode cX1_makeBubble 70 = .ok (.dup2, 1) := by decide +kernel
theorem dX1_makeBubble_71 : decode cX1_makeBubble 71 = .ok (.iaload, 1) := by decide +kernel
theorem dX1_makeBubble_72 : decode cX1_makeBubble 72 = .ok (.iconst 1, 1) := by decide +kernel
theorem dX1_makeBubble_73 : decode cX1_makeBubble 73 = .ok (.iadd, 1) := by decide +kernel
theorem dX1_makeBubble_74 : decode cX1_makeBubble 74 = .ok (.iastore, 1) := by decide +kernel
theorem dX1_makeBubble_75 : decode cX1_makeBubble 75 = .ok (.aload_n 0, 1) := by decide +kernel
theorem dX1_makeBubble_76 : decode cX1_makeBubble 76 = .ok (.dup, 1) := by decide +kernel
theorem dX1_makeBubble_77 : decode cX1_makeBubble 77 = .ok (.getfield 40, 3) := by decide +kernel
theorem dX1_makeBubble_80 : decode cX1_makeBubble 80 = .ok (.iconst 1, 1) := by decide +kernel
theorem dX1_makeBubble_81 : decode cX1_makeBubble 81 = .ok (.iadd, 1) := by decide +kernel
theorem dX1_makeBubble_82 : decode cX1_makeBubble 82 = .ok (.putfield 40, 3) := by decide +kernel
theorem dX1_makeBubble_85 : decode cX1_makeBubble 85 = .ok (.aload_n 0, 1) := by decide +kernel
theorem dX1_makeBubble_86 : decode cX1_makeBubble 86 = .ok (.aload_n 0, 1) := by decide +kernel
theorem dX1_makeBubble_87 : decode cX1_makeBubble 87 = .ok (.getfield 46, 3) := by decide +kernel
theorem dX1_makeBubble_90 : decode cX1_makeBubble 90 = .ok (.aload_n 0, 1) := by decide +kernel
theorem dX1_makeBubble_91 : decode cX1_makeBubble 91 = .ok (.aload_n 0, 1) := by decide +kernel
theorem dX1_makeBubble_92 : decode cX1_makeBubble 92 = .ok (.getfield 40, 3) := by decide +kernel
theorem dX1_makeBubble_95 : decode cX1_makeBubble 95 = .ok (.iconst 1, 1) := by decide +kernel
theorem dX1_makeBubble_96 : decode cX1_makeBubble 96 = .ok (.isub, 1) := by decide +kernel
theorem dX1_makeBubble_97 : decode cX1_makeBubble 97 = .ok (.invokevirtual 55, 3) := by decide +kernel
theorem dX1_makeBubble_100 : decode cX1_makeBubble 100 = .ok (.invokestatic 59, 3) := by decide +kernel
theorem dX1_makeBubble_103 : decode cX1_makeBubble 103 = .ok (.putfield 46, 3) := by decide +kernel
theorem dX1_makeBubble_106 : decode cX1_makeBubble 106 = .ok (.return_, 1) := by decide +kernel
theorem dX1_twistBehind_0 : decode cX1_twistBehind 0 = .ok (.iload_n 1, 1) := by decide +kernel
theorem dX1_twistBehind_1 : decode cX1_twistBehind 1 = .ok (.iconst 1, 1) := by decide +kernel
theorem dX1_twistBehind_2 : decode cX1_twistBehind 2 = .ok (.iadd, 1) := by decide +kernel
theorem dX1_twistBehind_3 : decode cX1_twistBehind 3 = .ok (.aload_n 0, 1) := by decide +kernel
theorem dX1_twistBehind_4 : decode cX1_twistBehind 4 = .ok (.getfield 40, 3) := by decide +kernel
theorem dX1_twistBehind_7 : decode cX1_twistBehind 7 = .ok (.if_icmp .ge 24, 3) := by decide +kernel
theorem dX1_twistBehind_10 : decode cX1_twistBehind 10 = .ok (.aload_n 0, 1) := by decide +kernel
theorem dX1_twistBehind_11 : decode cX1_twistBehind 11 = .ok (.getfield 24, 3) := by decide +kernel
theorem dX1_twistBehind_14 : decode cX1_twistBehind 14 = .ok (.iload_n 1, 1) := by decide +kernel
theorem dX1_twistBehind_15 : decode cX1_twistBehind 15 = .ok (.iaload, 1) := by decide +kernel
theorem dX1_twistBehind_16 : decode cX1_twistBehind 16 = .ok (.aload_n 0, 1) := by decide +kernel
theorem dX1_twistBehind_17 : decode cX1_twistBehind 17 = .ok (.getfield 24, 3) := by decide +kernel
theorem dX1_twistBehind_20 : decode cX1_twistBehind 20 = .ok (.iload_n 1, 1) := by decide +kernel
theorem dX1_twistBehind_21 : decode cX1_twistBehind 21 = .ok (.iconst 1, 1) := by decide +kernel
theorem dX1_twistBehind_22 : decode cX1_twistBehind 22 = .ok (.iadd, 1) := by decide +kernel
theorem dX1_twistBehind_23 : decode cX1_twistBehind 23 = .ok (.iaload, 1) := by decide +kernel
theorem dX1_twistBehind_24 : decode cX1_twistBehind 24 = .ok (.if_icmp .ne 7, 3) := by decide +kernel
theorem dX1_twistBehind_27 : decode cX1_twistBehind 27 = .ok (.iconst 1, 1) := by decide +kernel
theorem dX1_twistBehind_28 : decode cX1_twistBehind 28 = .ok (.goto 4, 3) := by decide +kernel
theorem dX1_twistBehind_31 : decode cX1_twistBehind 31 = .ok (.iconst 0, 1) := by decide +kernel
theorem dX1_twistBehind_32 : decode cX1_twistBehind 32 = .ok (.ireturn, 1) := by decide +kernel
theorem dX1_slackBehind_0 : decode cX1_slackBehind 0 = .ok (.aload_n 0, 1) := by decide +kernel
theorem dX1_slackBehind_1 : decode cX1_slackBehind 1 = .ok (.iload_n 1, 1) := by decide +kernel
theorem dX1_slackBehind_2 : decode cX1_slackBehind 2 = .ok (.invokevirtual 65, 3) := by decide +kernel
theorem dX1_slackBehind_5 : decode cX1_slackBehind 5 = .ok (.ifCond .eq 22, 3) := by decide +kernel
theorem dX1_slackBehind_8 : decode cX1_slackBehind 8 = .ok (.aload_n 0, 1) := by decide +kernel
theorem dX1_slackBehind_9 : decode cX1_slackBehind 9 = .ok (.getfield 27, 3) := by decide +kernel
theorem dX1_slackBehind_12 : decode cX1_slackBehind 12 = .ok (.aload_n 0, 1) := by decide +kernel
theorem dX1_slackBehind_13 : decode cX1_slackBehind 13 = .ok (.getfield 21, 3) := by decide +kernel
theorem dX1_slackBehind_16 : decode cX1_slackBehind 16 = .ok (.iload_n 1, 1) := by decide +kernel
theorem dX1_slackBehind_17 : decode cX1_slackBehind 17 = .ok (.iaload, 1) := by decide +kernel
theorem dX1_slackBehind_18 : decode cX1_slackBehind 18 = .ok (.iaload, 1) := by decide +kernel
theorem dX1_slackBehind_19 : decode cX1_slackBehind 19 = .ok (.iconst 3, 1) := by decide +kernel
theorem dX1_slackBehind_20 : decode cX1_slackBehind 20 = .ok (.if_icmp .ge 7, 3) := by decide +kernel
theorem dX1_slackBehind_23 : decode cX1_slackBehind 23 = .ok (.iconst 1, 1) := by decide +kernel
theorem dX1_slackBehind_24 : decode cX1_slackBehind 24 = .ok (.goto 4, 3) := by decide +kernel
theorem dX1_slackBehind_27 : decode cX1_slackBehind 27 = .ok (.iconst 0, 1) := by decide +kernel
theorem dX1_slackBehind_28 : decode cX1_slackBehind 28 = .ok (.ireturn, 1) := by decide +kernel
theorem dX1_twists_0 : decode cX1_twists 0 = .ok (.iconst 0, 1) := by decide +kernel
theorem dX1_twists_1 : decode cX1_twists 1 = .ok (.istore_n 1, 1) := by decide +kernel
theorem dX1_twists_2 : decode cX1_twists 2 = .ok (.iconst 0, 1) := by decide +kernel
theorem dX1_twists_3 : decode cX1_twists 3 = .ok (.istore_n 2, 1) := by decide +kernel
theorem dX1_twists_4 : decode cX1_twists 4 = .ok (.iload_n 2, 1) := by decide +kernel
theorem dX1_twists_5 : decode cX1_twists 5 = .ok (.aload_n 0, 1) := by decide +kernel
theorem dX1_twists_6 : decode cX1_twists 6 = .ok (.getfield 40, 3) := by decide +kernel
theorem dX1_twists_9 : decode cX1_twists 9 = .ok (.if_icmp .ge 20, 3) := by decide +kernel
theorem dX1_twists_12 : decode cX1_twists 12 = .ok (.aload_n 0, 1) := by decide +kernel
theorem dX1_twists_13 : decode cX1_twists 13 = .ok (.iload_n 2, 1) := by decide +kernel
theorem dX1_twists_14 : decode cX1_twists 14 = .ok (.invokevirtual 65, 3) := by decide +kernel
theorem dX1_twists_17 : decode cX1_twists 17 = .ok (.ifCond .eq 6, 3) := by decide +kernel
theorem dX1_twists_20 : decode cX1_twists 20 = .ok (.iinc 1 1, 3) := by decide +kernel
theorem dX1_twists_23 : decode cX1_twists 23 = .ok (.iinc 2 1, 3) := by decide +kernel
theorem dX1_twists_26 : decode cX1_twists 26 = .ok (.goto (-22), 3) := by decide +kernel
theorem dX1_twists_29 : decode cX1_twists 29 = .ok (.iload_n 1, 1) := by decide +kernel
theorem dX1_twists_30 : decode cX1_twists 30 = .ok (.ireturn, 1) := by decide +kernel
theorem dX1_slackTwistsUpTo_0 : decode cX1_slackTwistsUpTo 0 = .ok (.iconst 0, 1) := by decide +kernel
theorem dX1_slackTwistsUpTo_1 : decode cX1_slackTwistsUpTo 1 = .ok (.istore_n 2, 1) := by decide +kernel
theorem dX1_slackTwistsUpTo_2 : decode cX1_slackTwistsUpTo 2 = .ok (.iconst 0, 1) := by decide +kernel
theorem dX1_slackTwistsUpTo_3 : decode cX1_slackTwistsUpTo 3 = .ok (.istore_n 3, 1) := by decide +kernel
theorem dX1_slackTwistsUpTo_4 : decode cX1_slackTwistsUpTo 4 = .ok (.iload_n 3, 1) := by decide +kernel
theorem dX1_slackTwistsUpTo_5 : decode cX1_slackTwistsUpTo 5 = .ok (.iload_n 1, 1) := by decide +kernel
theorem dX1_slackTwistsUpTo_6 : decode cX1_slackTwistsUpTo 6 = .ok (.if_icmp .ge 54, 3) := by decide +kernel
theorem dX1_slackTwistsUpTo_9 : decode cX1_slackTwistsUpTo 9 = .ok (.iload_n 3, 1) := by decide +kernel
theorem dX1_slackTwistsUpTo_10 : decode cX1_slackTwistsUpTo 10 = .ok (.iconst 1, 1) := by decide +kernel
theorem dX1_slackTwistsUpTo_11 : decode cX1_slackTwistsUpTo 11 = .ok (.iadd, 1) := by decide +kernel
theorem dX1_slackTwistsUpTo_12 : decode cX1_slackTwistsUpTo 12 = .ok (.aload_n 0, 1) := by decide +kernel
theorem dX1_slackTwistsUpTo_13 : decode cX1_slackTwistsUpTo 13 = .ok (.getfield 40, 3) := by decide +kernel
theorem dX1_slackTwistsUpTo_16 : decode cX1_slackTwistsUpTo 16 = .ok (.if_icmp .ge 44, 3) := by decide +kernel
theorem dX1_slackTwistsUpTo_19 : decode cX1_slackTwistsUpTo 19 = .ok (.aload_n 0, 1) := by decide +kernel
theorem dX1_slackTwistsUpTo_20 : decode cX1_slackTwistsUpTo 20 = .ok (.getfield 24, 3) := by decide +kernel
theorem dX1_slackTwistsUpTo_23 : decode cX1_slackTwistsUpTo 23 = .ok (.iload_n 3, 1) := by decide +kernel
theorem dX1_slackTwistsUpTo_24 : decode cX1_slackTwistsUpTo 24 = .ok (.iaload, 1) := by decide +kernel
theorem dX1_slackTwistsUpTo_25 : decode cX1_slackTwistsUpTo 25 = .ok (.aload_n 0, 1) := by decide +kernel
theorem dX1_slackTwistsUpTo_26 : decode cX1_slackTwistsUpTo 26 = .ok (.getfield 24, 3) := by decide +kernel
theorem dX1_slackTwistsUpTo_29 : decode cX1_slackTwistsUpTo 29 = .ok (.iload_n 3, 1) := by decide +kernel
theorem dX1_slackTwistsUpTo_30 : decode cX1_slackTwistsUpTo 30 = .ok (.iconst 1, 1) := by decide +kernel
theorem dX1_slackTwistsUpTo_31 : decode cX1_slackTwistsUpTo 31 = .ok (.iadd, 1) := by decide +kernel
theorem dX1_slackTwistsUpTo_32 : decode cX1_slackTwistsUpTo 32 = .ok (.iaload, 1) := by decide +kernel
theorem dX1_slackTwistsUpTo_33 : decode cX1_slackTwistsUpTo 33 = .ok (.if_icmp .ne 21, 3) := by decide +kernel
theorem dX1_slackTwistsUpTo_36 : decode cX1_slackTwistsUpTo 36 = .ok (.aload_n 0, 1) := by decide +kernel
theorem dX1_slackTwistsUpTo_37 : decode cX1_slackTwistsUpTo 37 = .ok (.getfield 27, 3) := by decide +kernel
theorem dX1_slackTwistsUpTo_40 : decode cX1_slackTwistsUpTo 40 = .ok (.aload_n 0, 1) := by decide +kernel
theorem dX1_slackTwistsUpTo_41 : decode cX1_slackTwistsUpTo 41 = .ok (.getfield 21, 3) := by decide +kernel
theorem dX1_slackTwistsUpTo_44 : decode cX1_slackTwistsUpTo 44 = .ok (.iload_n 3, 1) := by decide +kernel
theorem dX1_slackTwistsUpTo_45 : decode cX1_slackTwistsUpTo 45 = .ok (.iaload, 1) := by decide +kernel
theorem dX1_slackTwistsUpTo_46 : decode cX1_slackTwistsUpTo 46 = .ok (.iaload, 1) := by decide +kernel
theorem dX1_slackTwistsUpTo_47 : decode cX1_slackTwistsUpTo 47 = .ok (.iconst 3, 1) := by decide +kernel
theorem dX1_slackTwistsUpTo_48 : decode cX1_slackTwistsUpTo 48 = .ok (.if_icmp .ge 6, 3) := by decide +kernel
theorem dX1_slackTwistsUpTo_51 : decode cX1_slackTwistsUpTo 51 = .ok (.iinc 2 1, 3) := by decide +kernel
theorem dX1_slackTwistsUpTo_54 : decode cX1_slackTwistsUpTo 54 = .ok (.iinc 3 1, 3) := by decide +kernel
theorem dX1_slackTwistsUpTo_57 : decode cX1_slackTwistsUpTo 57 = .ok (.goto (-53), 3) := by decide +kernel
theorem dX1_slackTwistsUpTo_60 : decode cX1_slackTwistsUpTo 60 = .ok (.iload_n 2, 1) := by decide +kernel
theorem dX1_slackTwistsUpTo_61 : decode cX1_slackTwistsUpTo 61 = .ok (.ireturn, 1) := by decide +kernel
theorem dX1_oddPoints_0 : decode cX1_oddPoints 0 = .ok (.iconst 0, 1) := by decide +kernel
theorem dX1_oddPoints_1 : decode cX1_oddPoints 1 = .ok (.istore_n 1, 1) := by decide +kernel
theorem dX1_oddPoints_2 : decode cX1_oddPoints 2 = .ok (.iconst 0, 1) := by decide +kernel
theorem dX1_oddPoints_3 : decode cX1_oddPoints 3 = .ok (.istore_n 2, 1) := by decide +kernel
theorem dX1_oddPoints_4 : decode cX1_oddPoints 4 = .ok (.iload_n 2, 1) := by decide +kernel
theorem dX1_oddPoints_5 : decode cX1_oddPoints 5 = .ok (.aload_n 0, 1) := by decide +kernel
theorem dX1_oddPoints_6 : decode cX1_oddPoints 6 = .ok (.getfield 40, 3) := by decide +kernel
theorem dX1_oddPoints_9 : decode cX1_oddPoints 9 = .ok (.if_icmp .ge 17, 3) := by decide +kernel
theorem dX1_oddPoints_12 : decode cX1_oddPoints 12 = .ok (.iload_n 1, 1) := by decide +kernel
theorem dX1_oddPoints_13 : decode cX1_oddPoints 13 = .ok (.aload_n 0, 1) := by decide +kernel
theorem dX1_oddPoints_14 : decode cX1_oddPoints 14 = .ok (.iload_n 2, 1) := by decide +kernel
theorem dX1_oddPoints_15 : decode cX1_oddPoints 15 = .ok (.invokevirtual 69, 3) := by decide +kernel
theorem dX1_oddPoints_18 : decode cX1_oddPoints 18 = .ok (.ixor, 1) := by decide +kernel
theorem dX1_oddPoints_19 : decode cX1_oddPoints 19 = .ok (.istore_n 1, 1) := by decide +kernel
theorem dX1_oddPoints_20 : decode cX1_oddPoints 20 = .ok (.iinc 2 1, 3) := by decide +kernel
theorem dX1_oddPoints_23 : decode cX1_oddPoints 23 = .ok (.goto (-19), 3) := by decide +kernel
theorem dX1_oddPoints_26 : decode cX1_oddPoints 26 = .ok (.iload_n 1, 1) := by decide +kernel
theorem dX1_oddPoints_27 : decode cX1_oddPoints 27 = .ok (.ireturn, 1) := by decide +kernel
theorem dX1_burstOf_0 : decode cX1_burstOf 0 = .ok (.iload_n 3, 1) := by decide +kernel
theorem dX1_burstOf_1 : decode cX1_burstOf 1 = .ok (.ineg, 1) := by decide +kernel
theorem dX1_burstOf_2 : decode cX1_burstOf 2 = .ok (.istore 4, 2) := by decide +kernel
theorem dX1_burstOf_4 : decode cX1_burstOf 4 = .ok (.iconst 0, 1) := by decide +kernel
theorem dX1_burstOf_5 : decode cX1_burstOf 5 = .ok (.istore 5, 2) := by decide +kernel
theorem dX1_burstOf_7 : decode cX1_burstOf 7 = .ok (.iload 5, 2) := by decide +kernel
theorem dX1_burstOf_9 : decode cX1_burstOf 9 = .ok (.aload_n 0, 1) := by decide +kernel
theorem dX1_burstOf_10 : decode cX1_burstOf 10 = .ok (.getfield 40, 3) := by decide +kernel
theorem dX1_burstOf_13 : decode cX1_burstOf 13 = .ok (.if_icmp .ge 43, 3) := by decide +kernel
theorem dX1_burstOf_16 : decode cX1_burstOf 16 = .ok (.aload_n 0, 1) := by decide +kernel
theorem dX1_burstOf_17 : decode cX1_burstOf 17 = .ok (.getfield 24, 3) := by decide +kernel
theorem dX1_burstOf_20 : decode cX1_burstOf 20 = .ok (.iload 5, 2) := by decide +kernel
theorem dX1_burstOf_22 : decode cX1_burstOf 22 = .ok (.iaload, 1) := by decide +kernel
theorem dX1_burstOf_23 : decode cX1_burstOf 23 = .ok (.iload_n 1, 1) := by decide +kernel
theorem dX1_burstOf_24 : decode cX1_burstOf 24 = .ok (.if_icmp .ne 26, 3) := by decide +kernel
theorem dX1_burstOf_27 : decode cX1_burstOf 27 = .ok (.iload 4, 2) := by decide +kernel
theorem dX1_burstOf_29 : decode cX1_burstOf 29 = .ok (.iload_n 3, 1) := by decide +kernel
theorem dX1_burstOf_30 : decode cX1_burstOf 30 = .ok (.aload_n 0, 1) := by decide +kernel
theorem dX1_burstOf_31 : decode cX1_burstOf 31 = .ok (.getfield 15, 3) := by decide +kernel
theorem dX1_burstOf_34 : decode cX1_burstOf 34 = .ok (.iload 5, 2) := by decide +kernel
theorem dX1_burstOf_36 : decode cX1_burstOf 36 = .ok (.iaload, 1) := by decide +kernel
theorem dX1_burstOf_37 : decode cX1_burstOf 37 = .ok (.iadd, 1) := by decide +kernel
theorem dX1_burstOf_38 : decode cX1_burstOf 38 = .ok (.iadd, 1) := by decide +kernel
theorem dX1_burstOf_39 : decode cX1_burstOf 39 = .ok (.istore 4, 2) := by decide +kernel
theorem dX1_burstOf_41 : decode cX1_burstOf 41 = .ok (.iload 4, 2) := by decide +kernel
theorem dX1_burstOf_43 : decode cX1_burstOf 43 = .ok (.iload_n 2, 1) := by decide +kernel
theorem dX1_burstOf_44 : decode cX1_burstOf 44 = .ok (.if_icmp .le 6, 3) := by decide +kernel
theorem dX1_burstOf_47 : decode cX1_burstOf 47 = .ok (.iload 5, 2) := by decide +kernel
theorem dX1_burstOf_49 : decode cX1_burstOf 49 = .ok (.ireturn, 1) := by decide +kernel
theorem dX1_burstOf_50 : decode cX1_burstOf 50 = .ok (.iinc 5 1, 3) := by decide +kernel
theorem dX1_burstOf_53 : decode cX1_burstOf 53 = .ok (.goto (-46), 3) := by decide +kernel
theorem dX1_burstOf_56 : decode cX1_burstOf 56 = .ok (.iconst (-1), 1) := by decide +kernel
theorem dX1_burstOf_57 : decode cX1_burstOf 57 = .ok (.ireturn, 1) := by decide +kernel
theorem dX1_needOf_0 : decode cX1_needOf 0 = .ok (.iconst 0, 1) := by decide +kernel
theorem dX1_needOf_1 : decode cX1_needOf 1 = .ok (.istore_n 3, 1) := by decide +kernel
theorem dX1_needOf_2 : decode cX1_needOf 2 = .ok (.iconst 0, 1) := by decide +kernel
theorem dX1_needOf_3 : decode cX1_needOf 3 = .ok (.istore 4, 2) := by decide +kernel
theorem dX1_needOf_5 : decode cX1_needOf 5 = .ok (.iload 4, 2) := by decide +kernel
theorem dX1_needOf_7 : decode cX1_needOf 7 = .ok (.aload_n 0, 1) := by decide +kernel
theorem dX1_needOf_8 : decode cX1_needOf 8 = .ok (.getfield 40, 3) := by decide +kernel
theorem dX1_needOf_11 : decode cX1_needOf 11 = .ok (.if_icmp .ge 45, 3) := by decide +kernel
theorem dX1_needOf_14 : decode cX1_needOf 14 = .ok (.aload_n 0, 1) := by decide +kernel
theorem dX1_needOf_15 : decode cX1_needOf 15 = .ok (.getfield 24, 3) := by decide +kernel
theorem dX1_needOf_18 : decode cX1_needOf 18 = .ok (.iload 4, 2) := by decide +kernel
theorem dX1_needOf_20 : decode cX1_needOf 20 = .ok (.iaload, 1) := by decide +kernel
theorem dX1_needOf_21 : decode cX1_needOf 21 = .ok (.iload_n 1, 1) := by decide +kernel
theorem dX1_needOf_22 : decode cX1_needOf 22 = .ok (.if_icmp .ne 28, 3) := by decide +kernel
theorem dX1_needOf_25 : decode cX1_needOf 25 = .ok (.iload_n 3, 1) := by decide +kernel
theorem dX1_needOf_26 : decode cX1_needOf 26 = .ok (.aload_n 0, 1) := by decide +kernel
theorem dX1_needOf_27 : decode cX1_needOf 27 = .ok (.getfield 15, 3) := by decide +kernel
theorem dX1_needOf_30 : decode cX1_needOf 30 = .ok (.iload 4, 2) := by decide +kernel
theorem dX1_needOf_32 : decode cX1_needOf 32 = .ok (.iaload, 1) := by decide +kernel
theorem dX1_needOf_33 : decode cX1_needOf 33 = .ok (.aload_n 0, 1) := by decide +kernel
theorem dX1_needOf_34 : decode cX1_needOf 34 = .ok (.iload 4, 2) := by decide +kernel
theorem dX1_needOf_36 : decode cX1_needOf 36 = .ok (.invokevirtual 65, 3) := by decide +kernel
theorem dX1_needOf_39 : decode cX1_needOf 39 = .ok (.ifCond .eq 7, 3) := by decide +kernel
theorem dX1_needOf_42 : decode cX1_needOf 42 = .ok (.iload_n 2, 1) := by decide +kernel
theorem dX1_needOf_43 : decode cX1_needOf 43 = .ok (.goto 4, 3) := by decide +kernel
theorem dX1_needOf_46 : decode cX1_needOf 46 = .ok (.iconst 0, 1) := by decide +kernel
theorem dX1_needOf_47 : decode cX1_needOf 47 = .ok (.iadd, 1) := by decide +kernel
theorem dX1_needOf_48 : decode cX1_needOf 48 = .ok (.iadd, 1) := by decide +kernel
theorem dX1_needOf_49 : decode cX1_needOf 49 = .ok (.istore_n 3, 1) := by decide +kernel
theorem dX1_needOf_50 : decode cX1_needOf 50 = .ok (.iinc 4 1, 3) := by decide +kernel
theorem dX1_needOf_53 : decode cX1_needOf 53 = .ok (.goto (-48), 3) := by decide +kernel
theorem dX1_needOf_56 : decode cX1_needOf 56 = .ok (.iload_n 3, 1) := by decide +kernel
theorem dX1_needOf_57 : decode cX1_needOf 57 = .ok (.ireturn, 1) := by decide +kernel
theorem dX1_bubblesOf_0 : decode cX1_bubblesOf 0 = .ok (.iconst 0, 1) := by decide +kernel
theorem dX1_bubblesOf_1 : decode cX1_bubblesOf 1 = .ok (.istore_n 2, 1) := by decide +kernel
theorem dX1_bubblesOf_2 : decode cX1_bubblesOf 2 = .ok (.iconst 0, 1) := by decide +kernel
theorem dX1_bubblesOf_3 : decode cX1_bubblesOf 3 = .ok (.istore_n 3, 1) := by decide +kernel
theorem dX1_bubblesOf_4 : decode cX1_bubblesOf 4 = .ok (.iload_n 3, 1) := by decide +kernel
theorem dX1_bubblesOf_5 : decode cX1_bubblesOf 5 = .ok (.aload_n 0, 1) := by decide +kernel
theorem dX1_bubblesOf_6 : decode cX1_bubblesOf 6 = .ok (.getfield 40, 3) := by decide +kernel
theorem dX1_bubblesOf_9 : decode cX1_bubblesOf 9 = .ok (.if_icmp .ge 22, 3) := by decide +kernel
theorem dX1_bubblesOf_12 : decode cX1_bubblesOf 12 = .ok (.aload_n 0, 1) := by decide +kernel
theorem dX1_bubblesOf_13 : decode cX1_bubblesOf 13 = .ok (.getfield 24, 3) := by decide +kernel
theorem dX1_bubblesOf_16 : decode cX1_bubblesOf 16 = .ok (.iload_n 3, 1) := by decide +kernel
theorem dX1_bubblesOf_17 : decode cX1_bubblesOf 17 = .ok (.iaload, 1) := by decide +kernel
theorem dX1_bubblesOf_18 : decode cX1_bubblesOf 18 = .ok (.iload_n 1, 1) := by decide +kernel
theorem dX1_bubblesOf_19 : decode cX1_bubblesOf 19 = .ok (.if_icmp .ne 6, 3) := by decide +kernel
theorem dX1_bubblesOf_22 : decode cX1_bubblesOf 22 = .ok (.iinc 2 1, 3) := by decide +kernel
theorem dX1_bubblesOf_25 : decode cX1_bubblesOf 25 = .ok (.iinc 3 1, 3) := by decide +kernel
theorem dX1_bubblesOf_28 : decode cX1_bubblesOf 28 = .ok (.goto (-24), 3) := by decide +kernel
theorem dX1_bubblesOf_31 : decode cX1_bubblesOf 31 = .ok (.iload_n 2, 1) := by decide +kernel
theorem dX1_bubblesOf_32 : decode cX1_bubblesOf 32 = .ok (.ireturn, 1) := by decide +kernel
theorem dX1_moveEnds_0 : decode cX1_moveEnds 0 = .ok (.iconst 0, 1) := by decide +kernel
theorem dX1_moveEnds_1 : decode cX1_moveEnds 1 = .ok (.istore_n 3, 1) := by decide +kernel
theorem dX1_moveEnds_2 : decode cX1_moveEnds 2 = .ok (.iload_n 3, 1) := by decide +kernel
theorem dX1_moveEnds_3 : decode cX1_moveEnds 3 = .ok (.aload_n 0, 1) := by decide +kernel
theorem dX1_moveEnds_4 : decode cX1_moveEnds 4 = .ok (.getfield 40, 3) := by decide +kernel
theorem dX1_moveEnds_7 : decode cX1_moveEnds 7 = .ok (.if_icmp .ge 61, 3) := by decide +kernel
theorem dX1_moveEnds_10 : decode cX1_moveEnds 10 = .ok (.aload_n 0, 1) := by decide +kernel
theorem dX1_moveEnds_11 : decode cX1_moveEnds 11 = .ok (.getfield 18, 3) := by decide +kernel
theorem dX1_moveEnds_14 : decode cX1_moveEnds 14 = .ok (.iload_n 3, 1) := by decide +kernel
theorem dX1_moveEnds_15 : decode cX1_moveEnds 15 = .ok (.aload_n 0, 1) := by decide +kernel
theorem dX1_moveEnds_16 : decode cX1_moveEnds 16 = .ok (.getfield 18, 3) := by decide +kernel
theorem dX1_moveEnds_19 : decode cX1_moveEnds 19 = .ok (.iload_n 3, 1) := by decide +kernel
theorem dX1_moveEnds_20 : decode cX1_moveEnds 20 = .ok (.iaload, 1) := by decide +kernel
theorem dX1_moveEnds_21 : decode cX1_moveEnds 21 = .ok (.iload_n 1, 1) := by decide +kernel
theorem dX1_moveEnds_22 : decode cX1_moveEnds 22 = .ok (.if_icmp .ne 7, 3) := by decide +kernel
theorem dX1_moveEnds_25 : decode cX1_moveEnds 25 = .ok (.iload_n 2, 1) := by decide +kernel
theorem dX1_moveEnds_26 : decode cX1_moveEnds 26 = .ok (.goto 9, 3) := by decide +kernel
theorem dX1_moveEnds_29 : decode cX1_moveEnds 29 = .ok (.aload_n 0, 1) := by decide +kernel
theorem dX1_moveEnds_30 : decode cX1_moveEnds 30 = .ok (.getfield 18, 3) := by decide +kernel
theorem dX1_moveEnds_33 : decode cX1_moveEnds 33 = .ok (.iload_n 3, 1) := by decide +kernel
theorem dX1_moveEnds_34 : decode cX1_moveEnds 34 = .ok (.iaload, 1) := by decide +kernel
theorem dX1_moveEnds_35 : decode cX1_moveEnds 35 = .ok (.iastore, 1) := by decide +kernel
theorem dX1_moveEnds_36 : decode cX1_moveEnds 36 = .ok (.aload_n 0, 1) := by decide +kernel
theorem dX1_moveEnds_37 : decode cX1_moveEnds 37 = .ok (.getfield 21, 3) := by decide +kernel
theorem dX1_moveEnds_40 : decode cX1_moveEnds 40 = .ok (.iload_n 3, 1) := by decide +kernel
theorem dX1_moveEnds_41 : decode cX1_moveEnds 41 = .ok (.aload_n 0, 1) := by decide +kernel
theorem dX1_moveEnds_42 : decode cX1_moveEnds 42 = .ok (.getfield 21, 3) := by decide +kernel
theorem dX1_moveEnds_45 : decode cX1_moveEnds 45 = .ok (.iload_n 3, 1) := by decide +kernel
theorem dX1_moveEnds_46 : decode cX1_moveEnds 46 = .ok (.iaload, 1) := by decide +kernel
theorem dX1_moveEnds_47 : decode cX1_moveEnds 47 = .ok (.iload_n 1, 1) := by decide +kernel
theorem dX1_moveEnds_48 : decode cX1_moveEnds 48 = .ok (.if_icmp .ne 7, 3) := by decide +kernel
theorem dX1_moveEnds_51 : decode cX1_moveEnds 51 = .ok (.iload_n 2, 1) := by decide +kernel
theorem dX1_moveEnds_52 : decode cX1_moveEnds 52 = .ok (.goto 9, 3) := by decide +kernel
theorem dX1_moveEnds_55 : decode cX1_moveEnds 55 = .ok (.aload_n 0, 1) := by decide +kernel
theorem dX1_moveEnds_56 : decode cX1_moveEnds 56 = .ok (.getfield 21, 3) := by decide +kernel
theorem dX1_moveEnds_59 : decode cX1_moveEnds 59 = .ok (.iload_n 3, 1) := by decide +kernel
theorem dX1_moveEnds_60 : decode cX1_moveEnds 60 = .ok (.iaload, 1) := by decide +kernel
theorem dX1_moveEnds_61 : decode cX1_moveEnds 61 = .ok (.iastore, 1) := by decide +kernel
theorem dX1_moveEnds_62 : decode cX1_moveEnds 62 = .ok (.iinc 3 1, 3) := by decide +kernel
theorem dX1_moveEnds_65 : decode cX1_moveEnds 65 = .ok (.goto (-63), 3) := by decide +kernel
theorem dX1_moveEnds_68 : decode cX1_moveEnds 68 = .ok (.aload_n 0, 1) := by decide +kernel
theorem dX1_moveEnds_69 : decode cX1_moveEnds 69 = .ok (.getfield 27, 3) := by decide +kernel
theorem dX1_moveEnds_72 : decode cX1_moveEnds 72 = .ok (.iload_n 2, 1) := by decide +kernel
theorem dX1_moveEnds_73 : decode cX1_moveEnds 73 = .ok (.dup2, 1) := by decide +kernel
theorem dX1_moveEnds_74 : decode cX1_moveEnds 74 = .ok (.iaload, 1) := by decide +kernel
theorem dX1_moveEnds_75 : decode cX1_moveEnds 75 = .ok (.aload_n 0, 1) := by decide +kernel
theorem dX1_moveEnds_76 : decode cX1_moveEnds 76 = .ok (.getfield 27, 3) := by decide +kernel
theorem dX1_moveEnds_79 : decode cX1_moveEnds 79 = .ok (.iload_n 1, 1) := by decide +kernel
theorem dX1_moveEnds_80 : decode cX1_moveEnds 80 = .ok (.iaload, 1) := by decide +kernel
theorem dX1_moveEnds_81 : decode cX1_moveEnds 81 = .ok (.iadd, 1) := by decide +kernel
theorem dX1_moveEnds_82 : decode cX1_moveEnds 82 = .ok (.iastore, 1) := by decide +kernel
theorem dX1_moveEnds_83 : decode cX1_moveEnds 83 = .ok (.aload_n 0, 1) := by decide +kernel
theorem dX1_moveEnds_84 : decode cX1_moveEnds 84 = .ok (.getfield 27, 3) := by decide +kernel
theorem dX1_moveEnds_87 : decode cX1_moveEnds 87 = .ok (.iload_n 1, 1) := by decide +kernel
theorem dX1_moveEnds_88 : decode cX1_moveEnds 88 = .ok (.iconst 0, 1) := by decide +kernel
theorem dX1_moveEnds_89 : decode cX1_moveEnds 89 = .ok (.iastore, 1) := by decide +kernel
theorem dX1_moveEnds_90 : decode cX1_moveEnds 90 = .ok (.return_, 1) := by decide +kernel
theorem dX1_closeUp_0 : decode cX1_closeUp 0 = .ok (.aload_n 1, 1) := by decide +kernel
theorem dX1_closeUp_1 : decode cX1_closeUp 1 = .ok (.aload_n 0, 1) := by decide +kernel
theorem dX1_closeUp_2 : decode cX1_closeUp 2 = .ok (.getfield 43, 3) := by decide +kernel
theorem dX1_closeUp_5 : decode cX1_closeUp 5 = .ok (.invokestatic 72, 3) := by decide +kernel
theorem dX1_closeUp_8 : decode cX1_closeUp 8 = .ok (.istore_n 2, 1) := by decide +kernel
theorem dX1_closeUp_9 : decode cX1_closeUp 9 = .ok (.iconst 0, 1) := by decide +kernel
theorem dX1_closeUp_10 : decode cX1_closeUp 10 = .ok (.istore_n 3, 1) := by decide +kernel
theorem dX1_closeUp_11 : decode cX1_closeUp 11 = .ok (.iload_n 3, 1) := by decide +kernel
theorem dX1_closeUp_12 : decode cX1_closeUp 12 = .ok (.aload_n 0, 1) := by decide +kernel
theorem dX1_closeUp_13 : decode cX1_closeUp 13 = .ok (.getfield 43, 3) := by decide +kernel
theorem dX1_closeUp_16 : decode cX1_closeUp 16 = .ok (.if_icmp .ge 30, 3) := by decide +kernel
theorem dX1_closeUp_19 : decode cX1_closeUp 19 = .ok (.aload_n 1, 1) := by decide +kernel
theorem dX1_closeUp_20 : decode cX1_closeUp 20 = .ok (.iload_n 3, 1) := by decide +kernel
theorem dX1_closeUp_21 : decode cX1_closeUp 21 = .ok (.iaload, 1) := by decide +kernel
theorem dX1_closeUp_22 : decode cX1_closeUp 22 = .ok (.iconst (-1), 1) := by decide +kernel
theorem dX1_closeUp_23 : decode cX1_closeUp 23 = .ok (.if_icmp .eq 17, 3) := by decide +kernel
theorem dX1_closeUp_26 : decode cX1_closeUp 26 = .ok (.aload_n 0, 1) := by decide +kernel
theorem dX1_closeUp_27 : decode cX1_closeUp 27 = .ok (.getfield 27, 3) := by decide +kernel
theorem dX1_closeUp_30 : decode cX1_closeUp 30 = .ok (.aload_n 1, 1) := by decide +kernel
theorem dX1_closeUp_31 : decode cX1_closeUp 31 = .ok (.iload_n 3, 1) := by decide +kernel
theorem dX1_closeUp_32 : decode cX1_closeUp 32 = .ok (.iaload, 1) := by decide +kernel
theorem dX1_closeUp_33 : decode cX1_closeUp 33 = .ok (.aload_n 0, 1) := by decide +kernel
theorem dX1_closeUp_34 : decode cX1_closeUp 34 = .ok (.getfield 27, 3) := by decide +kernel
theorem dX1_closeUp_37 : decode cX1_closeUp 37 = .ok (.iload_n 3, 1) := by decide +kernel
theorem dX1_closeUp_38 : decode cX1_closeUp 38 = .ok (.iaload, 1) := by decide +kernel
theorem dX1_closeUp_39 : decode cX1_closeUp 39 = .ok (.iastore, 1) := by decide +kernel
theorem dX1_closeUp_40 : decode cX1_closeUp 40 = .ok (.iinc 3 1, 3) := by decide +kernel
theorem dX1_closeUp_43 : decode cX1_closeUp 43 = .ok (.goto (-32), 3) := by decide +kernel
theorem dX1_closeUp_46 : decode cX1_closeUp 46 = .ok (.iconst 0, 1) := by decide +kernel
theorem dX1_closeUp_47 : decode cX1_closeUp 47 = .ok (.istore_n 3, 1) := by decide +kernel
theorem dX1_closeUp_48 : decode cX1_closeUp 48 = .ok (.iload_n 3, 1) := by decide +kernel
theorem dX1_closeUp_49 : decode cX1_closeUp 49 = .ok (.aload_n 0, 1) := by decide +kernel
theorem dX1_closeUp_50 : decode cX1_closeUp 50 = .ok (.getfield 40, 3) := by decide +kernel
theorem dX1_closeUp_53 : decode cX1_closeUp 53 = .ok (.if_icmp .ge 37, 3) := by decide +kernel
theorem dX1_closeUp_56 : decode cX1_closeUp 56 = .ok (.aload_n 0, 1) := by decide +kernel
theorem dX1_closeUp_57 : decode cX1_closeUp 57 = .ok (.getfield 18, 3) := by decide +kernel
theorem dX1_closeUp_60 : decode cX1_closeUp 60 = .ok (.iload_n 3, 1) := by decide +kernel
theorem dX1_closeUp_61 : decode cX1_closeUp 61 = .ok (.aload_n 1, 1) := by decide +kernel
theorem dX1_closeUp_62 : decode cX1_closeUp 62 = .ok (.aload_n 0, 1) := by decide +kernel
theorem dX1_closeUp_63 : decode cX1_closeUp 63 = .ok (.getfield 18, 3) := by decide +kernel
theorem dX1_closeUp_66 : decode cX1_closeUp 66 = .ok (.iload_n 3, 1) := by decide +kernel
theorem dX1_closeUp_67 : decode cX1_closeUp 67 = .ok (.iaload, 1) := by decide +kernel
theorem dX1_closeUp_68 : decode cX1_closeUp 68 = .ok (.iaload, 1) := by decide +kernel
theorem dX1_closeUp_69 : decode cX1_closeUp 69 = .ok (.iastore, 1) := by decide +kernel
theorem dX1_closeUp_70 : decode cX1_closeUp 70 = .ok (.aload_n 0, 1) := by decide +kernel
theorem dX1_closeUp_71 : decode cX1_closeUp 71 = .ok (.getfield 21, 3) := by decide +kernel
theorem dX1_closeUp_74 : decode cX1_closeUp 74 = .ok (.iload_n 3, 1) := by decide +kernel
theorem dX1_closeUp_75 : decode cX1_closeUp 75 = .ok (.aload_n 1, 1) := by decide +kernel
theorem dX1_closeUp_76 : decode cX1_closeUp 76 = .ok (.aload_n 0, 1) := by decide +kernel
theorem dX1_closeUp_77 : decode cX1_closeUp 77 = .ok (.getfield 21, 3) := by decide +kernel
theorem dX1_closeUp_80 : decode cX1_closeUp 80 = .ok (.iload_n 3, 1) := by decide +kernel
theorem dX1_closeUp_81 : decode cX1_closeUp 81 = .ok (.iaload, 1) := by decide +kernel
theorem dX1_closeUp_82 : decode cX1_closeUp 82 = .ok (.iaload, 1) := by decide +kernel
theorem dX1_closeUp_83 : decode cX1_closeUp 83 = .ok (.iastore, 1) := by decide +kernel
theorem dX1_closeUp_84 : decode cX1_closeUp 84 = .ok (.iinc 3 1, 3) := by decide +kernel
theorem dX1_closeUp_87 : decode cX1_closeUp 87 = .ok (.goto (-39), 3) := by decide +kernel
theorem dX1_closeUp_90 : decode cX1_closeUp 90 = .ok (.aload_n 0, 1) := by decide +kernel
theorem dX1_closeUp_91 : decode cX1_closeUp 91 = .ok (.iload_n 2, 1) := by decide +kernel
theorem dX1_closeUp_92 : decode cX1_closeUp 92 = .ok (.putfield 43, 3) := by decide +kernel
theorem dX1_closeUp_95 : decode cX1_closeUp 95 = .ok (.return_, 1) := by decide +kernel
theorem dX1_numberAnew_0 : decode cX1_numberAnew 0 = .ok (.iconst 0, 1) := by decide +kernel
theorem dX1_numberAnew_1 : decode cX1_numberAnew 1 = .ok (.istore_n 2, 1) := by decide +kernel
theorem dX1_numberAnew_2 : decode cX1_numberAnew 2 = .ok (.iconst 0, 1) := by decide +kernel
theorem dX1_numberAnew_3 : decode cX1_numberAnew 3 = .ok (.istore_n 3, 1) := by decide +kernel
theorem dX1_numberAnew_4 : decode cX1_numberAnew 4 = .ok (.iload_n 3, 1) := by decide +kernel
theorem dX1_numberAnew_5 : decode cX1_numberAnew 5 = .ok (.iload_n 1, 1) := by decide +kernel
theorem dX1_numberAnew_6 : decode cX1_numberAnew 6 = .ok (.if_icmp .ge 23, 3) := by decide +kernel
theorem dX1_numberAnew_9 : decode cX1_numberAnew 9 = .ok (.aload_n 0, 1) := by decide +kernel
theorem dX1_numberAnew_10 : decode cX1_numberAnew 10 = .ok (.iload_n 3, 1) := by decide +kernel
theorem dX1_numberAnew_11 : decode cX1_numberAnew 11 = .ok (.iaload, 1) := by decide +kernel
theorem dX1_numberAnew_12 : decode cX1_numberAnew 12 = .ok (.iconst (-1), 1) := by decide +kernel
theorem dX1_numberAnew_13 : decode cX1_numberAnew 13 = .ok (.if_icmp .eq 10, 3) := by decide +kernel
theorem dX1_numberAnew_16 : decode cX1_numberAnew 16 = .ok (.aload_n 0, 1) := by decide +kernel
theorem dX1_numberAnew_17 : decode cX1_numberAnew 17 = .ok (.iload_n 3, 1) := by decide +kernel
theorem dX1_numberAnew_18 : decode cX1_numberAnew 18 = .ok (.iload_n 2, 1) := by decide +kernel
theorem dX1_numberAnew_19 : decode cX1_numberAnew 19 = .ok (.iastore, 1) := by decide +kernel
theorem dX1_numberAnew_20 : decode cX1_numberAnew 20 = .ok (.iinc 2 1, 3) := by decide +kernel
theorem dX1_numberAnew_23 : decode cX1_numberAnew 23 = .ok (.iinc 3 1, 3) := by decide +kernel
theorem dX1_numberAnew_26 : decode cX1_numberAnew 26 = .ok (.goto (-22), 3) := by decide +kernel
theorem dX1_numberAnew_29 : decode cX1_numberAnew 29 = .ok (.iload_n 2, 1) := by decide +kernel
theorem dX1_numberAnew_30 : decode cX1_numberAnew 30 = .ok (.ireturn, 1) := by decide +kernel
theorem dX1_turnBack_0 : decode cX1_turnBack 0 = .ok (.aload_n 0, 1) := by decide +kernel
theorem dX1_turnBack_1 : decode cX1_turnBack 1 = .ok (.invokevirtual 76, 3) := by decide +kernel
theorem dX1_turnBack_4 : decode cX1_turnBack 4 = .ok (.aload_n 2, 1) := by decide +kernel
theorem dX1_turnBack_5 : decode cX1_turnBack 5 = .ok (.iconst 0, 1) := by decide +kernel
theorem dX1_turnBack_6 : decode cX1_turnBack 6 = .ok (.invokestatic 30, 3) := by decide +kernel
theorem dX1_turnBack_9 : decode cX1_turnBack 9 = .ok (.iconst 0, 1) := by decide +kernel
theorem dX1_turnBack_10 : decode cX1_turnBack 10 = .ok (.istore_n 3, 1) := by decide +kernel
theorem dX1_turnBack_11 : decode cX1_turnBack 11 = .ok (.iload_n 3, 1) := by decide +kernel
theorem dX1_turnBack_12 : decode cX1_turnBack 12 = .ok (.aload_n 1, 1) := by decide +kernel
theorem dX1_turnBack_13 : decode cX1_turnBack 13 = .ok (.getfield 40, 3) := by decide +kernel
theorem dX1_turnBack_16 : decode cX1_turnBack 16 = .ok (.if_icmp .ge 26, 3) := by decide +kernel
theorem dX1_turnBack_19 : decode cX1_turnBack 19 = .ok (.aload_n 1, 1) := by decide +kernel
theorem dX1_turnBack_20 : decode cX1_turnBack 20 = .ok (.iload_n 3, 1) := by decide +kernel
theorem dX1_turnBack_21 : decode cX1_turnBack 21 = .ok (.invokevirtual 79, 3) := by decide +kernel
theorem dX1_turnBack_24 : decode cX1_turnBack 24 = .ok (.ifCond .eq 12, 3) := by decide +kernel
theorem dX1_turnBack_27 : decode cX1_turnBack 27 = .ok (.aload_n 2, 1) := by decide +kernel
theorem dX1_turnBack_28 : decode cX1_turnBack 28 = .ok (.aload_n 1, 1) := by decide +kernel
theorem dX1_turnBack_29 : decode cX1_turnBack 29 = .ok (.getfield 21, 3) := by decide +kernel
theorem dX1_turnBack_32 : decode cX1_turnBack 32 = .ok (.iload_n 3, 1) := by decide +kernel
theorem dX1_turnBack_33 : decode cX1_turnBack 33 = .ok (.iaload, 1) := by decide +kernel
theorem dX1_turnBack_34 : decode cX1_turnBack 34 = .ok (.iconst (-1), 1) := by decide +kernel
theorem dX1_turnBack_35 : decode cX1_turnBack 35 = .ok (.iastore, 1) := by decide +kernel
theorem dX1_turnBack_36 : decode cX1_turnBack 36 = .ok (.iinc 3 1, 3) := by decide +kernel
theorem dX1_turnBack_39 : decode cX1_turnBack 39 = .ok (.goto (-28), 3) := by decide +kernel
theorem dX1_turnBack_42 : decode cX1_turnBack 42 = .ok (.aload_n 0, 1) := by decide +kernel
theorem dX1_turnBack_43 : decode cX1_turnBack 43 = .ok (.aload_n 2, 1) := by decide +kernel
theorem dX1_turnBack_44 : decode cX1_turnBack 44 = .ok (.aload_n 1, 1) := by decide +kernel
theorem dX1_turnBack_45 : decode cX1_turnBack 45 = .ok (.getfield 43, 3) := by decide +kernel
theorem dX1_turnBack_48 : decode cX1_turnBack 48 = .ok (.invokestatic 72, 3) := by decide +kernel
theorem dX1_turnBack_51 : decode cX1_turnBack 51 = .ok (.putfield 43, 3) := by decide +kernel
theorem dX1_turnBack_54 : decode cX1_turnBack 54 = .ok (.iconst 0, 1) := by decide +kernel
theorem dX1_turnBack_55 : decode cX1_turnBack 55 = .ok (.istore_n 3, 1) := by decide +kernel
theorem dX1_turnBack_56 : decode cX1_turnBack 56 = .ok (.iconst 0, 1) := by decide +kernel
theorem dX1_turnBack_57 : decode cX1_turnBack 57 = .ok (.istore 4, 2) := by decide +kernel
theorem dX1_turnBack_59 : decode cX1_turnBack 59 = .ok (.iload 4, 2) := by decide +kernel
theorem dX1_turnBack_61 : decode cX1_turnBack 61 = .ok (.aload_n 1, 1) := by decide +kernel
theorem dX1_turnBack_62 : decode cX1_turnBack 62 = .ok (.getfield 36, 3) := by decide +kernel
theorem dX1_turnBack_65 : decode cX1_turnBack 65 = .ok (.if_icmp .ge 30, 3) := by decide +kernel
theorem dX1_turnBack_68 : decode cX1_turnBack 68 = .ok (.aload_n 0, 1) := by decide +kernel
theorem dX1_turnBack_69 : decode cX1_turnBack 69 = .ok (.aload_n 1, 1) := by decide +kernel
theorem dX1_turnBack_70 : decode cX1_turnBack 70 = .ok (.getfield 9, 3) := by decide +kernel
theorem dX1_turnBack_73 : decode cX1_turnBack 73 = .ok (.iload 4, 2) := by decide +kernel
theorem dX1_turnBack_75 : decode cX1_turnBack 75 = .ok (.iaload, 1) := by decide +kernel
theorem dX1_turnBack_76 : decode cX1_turnBack 76 = .ok (.invokevirtual 82, 3) := by decide +kernel
theorem dX1_turnBack_79 : decode cX1_turnBack 79 = .ok (.aload_n 0, 1) := by decide +kernel
theorem dX1_turnBack_80 : decode cX1_turnBack 80 = .ok (.aload_n 1, 1) := by decide +kernel
theorem dX1_turnBack_81 : decode cX1_turnBack 81 = .ok (.iload 4, 2) := by decide +kernel
theorem dX1_turnBack_83 : decode cX1_turnBack 83 = .ok (.iload_n 3, 1) := by decide +kernel
theorem dX1_turnBack_84 : decode cX1_turnBack 84 = .ok (.aload_n 2, 1) := by decide +kernel
theorem dX1_turnBack_85 : decode cX1_turnBack 85 = .ok (.invokevirtual 86, 3) := by decide +kernel
theorem dX1_turnBack_88 : decode cX1_turnBack 88 = .ok (.istore_n 3, 1) := by decide +kernel
theorem dX1_turnBack_89 : decode cX1_turnBack 89 = .ok (.iinc 4 1, 3) := by decide +kernel
theorem dX1_turnBack_92 : decode cX1_turnBack 92 = .ok (.goto (-33), 3) := by decide +kernel
theorem dX1_turnBack_95 : decode cX1_turnBack 95 = .ok (.return_, 1) := by decide +kernel
theorem dX1_turnBalloonBack_0 : decode cX1_turnBalloonBack 0 = .ok (.iconst 0, 1) := by decide +kernel
theorem dX1_turnBalloonBack_1 : decode cX1_turnBalloonBack 1 = .ok (.istore 5, 2) := by decide +kernel
theorem dX1_turnBalloonBack_3 : decode cX1_turnBalloonBack 3 = .ok (.iload_n 3, 1) := by decide +kernel
theorem dX1_turnBalloonBack_4 : decode cX1_turnBalloonBack 4 = .ok (.istore 6, 2) := by decide +kernel
theorem dX1_turnBalloonBack_6 : decode cX1_turnBalloonBack 6 = .ok (.iload_n 3, 1) := by decide +kernel
theorem dX1_turnBalloonBack_7 : decode cX1_turnBalloonBack 7 = .ok (.istore 7, 2) := by decide +kernel
theorem dX1_turnBalloonBack_9 : decode cX1_turnBalloonBack 9 = .ok (.iload 7, 2) := by decide +kernel
theorem dX1_turnBalloonBack_11 : decode cX1_turnBalloonBack 11 = .ok (.aload_n 1, 1) := by decide +kernel
theorem dX1_turnBalloonBack_12 : decode cX1_turnBalloonBack 12 = .ok (.getfield 40, 3) := by decide +kernel
theorem dX1_turnBalloonBack_15 : decode cX1_turnBalloonBack 15 = .ok (.if_icmp .ge 76, 3) := by decide +kernel
theorem dX1_turnBalloonBack_18 : decode cX1_turnBalloonBack 18 = .ok (.aload_n 1, 1) := by decide +kernel
theorem dX1_turnBalloonBack_19 : decode cX1_turnBalloonBack 19 = .ok (.getfield 24, 3) := by decide +kernel
theorem dX1_turnBalloonBack_22 : decode cX1_turnBalloonBack 22 = .ok (.iload 7, 2) := by decide +kernel
theorem dX1_turnBalloonBack_24 : decode cX1_turnBalloonBack 24 = .ok (.iaload, 1) := by decide +kernel
theorem dX1_turnBalloonBack_25 : decode cX1_turnBalloonBack 25 = .ok (.iload_n 2, 1) := by decide +kernel
theorem dX1_turnBalloonBack_26 : decode cX1_turnBalloonBack 26 = .ok (.if_icmp .ne 65, 3) := by decide +kernel
theorem dX1_turnBalloonBack_29 : decode cX1_turnBalloonBack 29 = .ok (.iload 5, 2) := by decide +kernel
theorem dX1_turnBalloonBack_31 : decode cX1_turnBalloonBack 31 = .ok (.aload_n 1, 1) := by decide +kernel
theorem dX1_turnBalloonBack_32 : decode cX1_turnBalloonBack 32 = .ok (.getfield 15, 3) := by decide +kernel
theorem dX1_turnBalloonBack_35 : decode cX1_turnBalloonBack 35 = .ok (.iload 7, 2) := by decide +kernel
theorem dX1_turnBalloonBack_37 : decode cX1_turnBalloonBack 37 = .ok (.iaload, 1) := by decide +kernel
theorem dX1_turnBalloonBack_38 : decode cX1_turnBalloonBack 38 = .ok (.iadd, 1) := by decide +kernel
theorem dX1_turnBalloonBack_39 : decode cX1_turnBalloonBack 39 = .ok (.istore 5, 2) := by decide +kernel
theorem dX1_turnBalloonBack_41 : decode cX1_turnBalloonBack 41 = .ok (.aload_n 1, 1) := by decide +kernel
theorem dX1_turnBalloonBack_42 : decode cX1_turnBalloonBack 42 = .ok (.iload 7, 2) := by decide +kernel
theorem dX1_turnBalloonBack_44 : decode cX1_turnBalloonBack 44 = .ok (.invokevirtual 79, 3) := by decide +kernel
theorem dX1_turnBalloonBack_47 : decode cX1_turnBalloonBack 47 = .ok (.ifCond .ne 38, 3) := by decide +kernel
theorem dX1_turnBalloonBack_50 : decode cX1_turnBalloonBack 50 = .ok (.aload_n 0, 1) := by decide +kernel
theorem dX1_turnBalloonBack_51 : decode cX1_turnBalloonBack 51 = .ok (.iload 5, 2) := by decide +kernel
theorem dX1_turnBalloonBack_53 : decode cX1_turnBalloonBack 53 = .ok (.aload 4, 2) := by decide +kernel
theorem dX1_turnBalloonBack_55 : decode cX1_turnBalloonBack 55 = .ok (.aload_n 1, 1) := by decide +kernel
theorem dX1_turnBalloonBack_56 : decode cX1_turnBalloonBack 56 = .ok (.getfield 18, 3) := by decide +kernel
theorem dX1_turnBalloonBack_59 : decode cX1_turnBalloonBack 59 = .ok (.iload 6, 2) := by decide +kernel
theorem dX1_turnBalloonBack_61 : decode cX1_turnBalloonBack 61 = .ok (.iaload, 1) := by decide +kernel
theorem dX1_turnBalloonBack_62 : decode cX1_turnBalloonBack 62 = .ok (.iaload, 1) := by decide +kernel
theorem dX1_turnBalloonBack_63 : decode cX1_turnBalloonBack 63 = .ok (.aload 4, 2) := by decide +kernel
theorem dX1_turnBalloonBack_65 : decode cX1_turnBalloonBack 65 = .ok (.aload_n 1, 1) := by decide +kernel
theorem dX1_turnBalloonBack_66 : decode cX1_turnBalloonBack 66 = .ok (.getfield 21, 3) := by decide +kernel
theorem dX1_turnBalloonBack_69 : decode cX1_turnBalloonBack 69 = .ok (.iload 7, 2) := by decide +kernel
theorem dX1_turnBalloonBack_71 : decode cX1_turnBalloonBack 71 = .ok (.iaload, 1) := by decide +kernel
theorem dX1_turnBalloonBack_72 : decode cX1_turnBalloonBack 72 = .ok (.iaload, 1) := by decide +kernel
theorem dX1_turnBalloonBack_73 : decode cX1_turnBalloonBack 73 = .ok (.invokevirtual 90, 3) := by decide +kernel
theorem dX1_turnBalloonBack_76 : decode cX1_turnBalloonBack 76 = .ok (.iconst 0, 1) := by decide +kernel
theorem dX1_turnBalloonBack_77 : decode cX1_turnBalloonBack 77 = .ok (.istore 5, 2) := by decide +kernel
theorem dX1_turnBalloonBack_79 : decode cX1_turnBalloonBack 79 = .ok (.iload 7, 2) := by decide +kernel
theorem dX1_turnBalloonBack_81 : decode cX1_turnBalloonBack 81 = .ok (.iconst 1, 1) := by decide +kernel
theorem dX1_turnBalloonBack_82 : decode cX1_turnBalloonBack 82 = .ok (.iadd, 1) := by decide +kernel
theorem dX1_turnBalloonBack_83 : decode cX1_turnBalloonBack 83 = .ok (.istore 6, 2) := by decide +kernel
theorem dX1_turnBalloonBack_85 : decode cX1_turnBalloonBack 85 = .ok (.iinc 7 1, 3) := by decide +kernel
theorem dX1_turnBalloonBack_88 : decode cX1_turnBalloonBack 88 = .ok (.goto (-79), 3) := by decide +kernel
theorem dX1_turnBalloonBack_91 : decode cX1_turnBalloonBack 91 = .ok (.iload 7, 2) := by decide +kernel
theorem dX1_turnBalloonBack_93 : decode cX1_turnBalloonBack 93 = .ok (.ireturn, 1) := by decide +kernel
theorem dX1_joinTwo_0 : decode cX1_joinTwo 0 = .ok (.aload_n 0, 1) := by decide +kernel
theorem dX1_joinTwo_1 : decode cX1_joinTwo 1 = .ok (.invokevirtual 76, 3) := by decide +kernel
theorem dX1_joinTwo_4 : decode cX1_joinTwo 4 = .ok (.aload_n 0, 1) := by decide +kernel
theorem dX1_joinTwo_5 : decode cX1_joinTwo 5 = .ok (.aload_n 1, 1) := by decide +kernel
theorem dX1_joinTwo_6 : decode cX1_joinTwo 6 = .ok (.getfield 43, 3) := by decide +kernel
theorem dX1_joinTwo_9 : decode cX1_joinTwo 9 = .ok (.aload_n 2, 1) := by decide +kernel
theorem dX1_joinTwo_10 : decode cX1_joinTwo 10 = .ok (.getfield 43, 3) := by decide +kernel
theorem dX1_joinTwo_13 : decode cX1_joinTwo 13 = .ok (.iadd, 1) := by decide +kernel
theorem dX1_joinTwo_14 : decode cX1_joinTwo 14 = .ok (.iconst 1, 1) := by decide +kernel
theorem dX1_joinTwo_15 : decode cX1_joinTwo 15 = .ok (.isub, 1) := by decide +kernel
theorem dX1_joinTwo_16 : decode cX1_joinTwo 16 = .ok (.putfield 43, 3) := by decide +kernel
theorem dX1_joinTwo_19 : decode cX1_joinTwo 19 = .ok (.iconst 0, 1) := by decide +kernel
theorem dX1_joinTwo_20 : decode cX1_joinTwo 20 = .ok (.istore 5, 2) := by decide +kernel
theorem dX1_joinTwo_22 : decode cX1_joinTwo 22 = .ok (.iconst 0, 1) := by decide +kernel
theorem dX1_joinTwo_23 : decode cX1_joinTwo 23 = .ok (.istore 6, 2) := by decide +kernel
theorem dX1_joinTwo_25 : decode cX1_joinTwo 25 = .ok (.iload 6, 2) := by decide +kernel
theorem dX1_joinTwo_27 : decode cX1_joinTwo 27 = .ok (.aload_n 1, 1) := by decide +kernel
theorem dX1_joinTwo_28 : decode cX1_joinTwo 28 = .ok (.getfield 36, 3) := by decide +kernel
theorem dX1_joinTwo_31 : decode cX1_joinTwo 31 = .ok (.if_icmp .ge 72, 3) := by decide +kernel
theorem dX1_joinTwo_34 : decode cX1_joinTwo 34 = .ok (.aload_n 0, 1) := by decide +kernel
theorem dX1_joinTwo_35 : decode cX1_joinTwo 35 = .ok (.aload_n 1, 1) := by decide +kernel
theorem dX1_joinTwo_36 : decode cX1_joinTwo 36 = .ok (.getfield 9, 3) := by decide +kernel
theorem dX1_joinTwo_39 : decode cX1_joinTwo 39 = .ok (.iload 6, 2) := by decide +kernel
theorem dX1_joinTwo_41 : decode cX1_joinTwo 41 = .ok (.iaload, 1) := by decide +kernel
theorem dX1_joinTwo_42 : decode cX1_joinTwo 42 = .ok (.invokevirtual 82, 3) := by decide +kernel
theorem dX1_joinTwo_45 : decode cX1_joinTwo 45 = .ok (.iload 5, 2) := by decide +kernel
theorem dX1_joinTwo_47 : decode cX1_joinTwo 47 = .ok (.aload_n 1, 1) := by decide +kernel
theorem dX1_joinTwo_48 : decode cX1_joinTwo 48 = .ok (.getfield 40, 3) := by decide +kernel
theorem dX1_joinTwo_51 : decode cX1_joinTwo 51 = .ok (.if_icmp .ge 46, 3) := by decide +kernel
theorem dX1_joinTwo_54 : decode cX1_joinTwo 54 = .ok (.aload_n 1, 1) := by decide +kernel
theorem dX1_joinTwo_55 : decode cX1_joinTwo 55 = .ok (.getfield 24, 3) := by decide +kernel
theorem dX1_joinTwo_58 : decode cX1_joinTwo 58 = .ok (.iload 5, 2) := by decide +kernel
theorem dX1_joinTwo_60 : decode cX1_joinTwo 60 = .ok (.iaload, 1) := by decide +kernel
theorem dX1_joinTwo_61 : decode cX1_joinTwo 61 = .ok (.iload 6, 2) := by decide +kernel
theorem dX1_joinTwo_63 : decode cX1_joinTwo 63 = .ok (.if_icmp .ne 34, 3) := by decide +kernel
theorem dX1_joinTwo_66 : decode cX1_joinTwo 66 = .ok (.aload_n 0, 1) := by decide +kernel
theorem dX1_joinTwo_67 : decode cX1_joinTwo 67 = .ok (.aload_n 1, 1) := by decide +kernel
theorem dX1_joinTwo_68 : decode cX1_joinTwo 68 = .ok (.getfield 15, 3) := by decide +kernel
theorem dX1_joinTwo_71 : decode cX1_joinTwo 71 = .ok (.iload 5, 2) := by decide +kernel
theorem dX1_joinTwo_73 : decode cX1_joinTwo 73 = .ok (.iaload, 1) := by decide +kernel
theorem dX1_joinTwo_74 : decode cX1_joinTwo 74 = .ok (.aload_n 1, 1) := by decide +kernel
theorem dX1_joinTwo_75 : decode cX1_joinTwo 75 = .ok (.getfield 18, 3) := by decide +kernel
theorem dX1_joinTwo_78 : decode cX1_joinTwo 78 = .ok (.iload 5, 2) := by decide +kernel
theorem dX1_joinTwo_80 : decode cX1_joinTwo 80 = .ok (.iaload, 1) := by decide +kernel
theorem dX1_joinTwo_81 : decode cX1_joinTwo 81 = .ok (.aload_n 1, 1) := by decide +kernel
theorem dX1_joinTwo_82 : decode cX1_joinTwo 82 = .ok (.getfield 21, 3) := by decide +kernel
theorem dX1_joinTwo_85 : decode cX1_joinTwo 85 = .ok (.iload 5, 2) := by decide +kernel
theorem dX1_joinTwo_87 : decode cX1_joinTwo 87 = .ok (.iaload, 1) := by decide +kernel
theorem dX1_joinTwo_88 : decode cX1_joinTwo 88 = .ok (.invokevirtual 90, 3) := by decide +kernel
theorem dX1_joinTwo_91 : decode cX1_joinTwo 91 = .ok (.iinc 5 1, 3) := by decide +kernel
theorem dX1_joinTwo_94 : decode cX1_joinTwo 94 = .ok (.goto (-49), 3) := by decide +kernel
theorem dX1_joinTwo_97 : decode cX1_joinTwo 97 = .ok (.iinc 6 1, 3) := by decide +kernel
theorem dX1_joinTwo_100 : decode cX1_joinTwo 100 = .ok (.goto (-75), 3) := by decide +kernel
theorem dX1_joinTwo_103 : decode cX1_joinTwo 103 = .ok (.iconst 0, 1) := by decide +kernel
theorem dX1_joinTwo_104 : decode cX1_joinTwo 104 = .ok (.istore 5, 2) := by decide +kernel
theorem dX1_joinTwo_106 : decode cX1_joinTwo 106 = .ok (.iconst 0, 1) := by decide +kernel
theorem dX1_joinTwo_107 : decode cX1_joinTwo 107 = .ok (.istore 6, 2) := by decide +kernel
theorem dX1_joinTwo_109 : decode cX1_joinTwo 109 = .ok (.iload 6, 2) := by decide +kernel
theorem dX1_joinTwo_111 : decode cX1_joinTwo 111 = .ok (.aload_n 2, 1) := by decide +kernel
theorem dX1_joinTwo_112 : decode cX1_joinTwo 112 = .ok (.getfield 36, 3) := by decide +kernel
theorem dX1_joinTwo_115 : decode cX1_joinTwo 115 = .ok (.if_icmp .ge 100, 3) := by decide +kernel
theorem dX1_joinTwo_118 : decode cX1_joinTwo 118 = .ok (.aload_n 0, 1) := by decide +kernel
theorem dX1_joinTwo_119 : decode cX1_joinTwo 119 = .ok (.aload_n 2, 1) := by decide +kernel
theorem dX1_joinTwo_120 : decode cX1_joinTwo 120 = .ok (.getfield 9, 3) := by decide +kernel
theorem dX1_joinTwo_123 : decode cX1_joinTwo 123 = .ok (.iload 6, 2) := by decide +kernel
theorem dX1_joinTwo_125 : decode cX1_joinTwo 125 = .ok (.iaload, 1) := by decide +kernel
theorem dX1_joinTwo_126 : decode cX1_joinTwo 126 = .ok (.invokevirtual 82, 3) := by decide +kernel
theorem dX1_joinTwo_129 : decode cX1_joinTwo 129 = .ok (.iload 5, 2) := by decide +kernel
theorem dX1_joinTwo_131 : decode cX1_joinTwo 131 = .ok (.aload_n 2, 1) := by decide +kernel
theorem dX1_joinTwo_132 : decode cX1_joinTwo 132 = .ok (.getfield 40, 3) := by decide +kernel
theorem dX1_joinTwo_135 : decode cX1_joinTwo 135 = .ok (.if_icmp .ge 74, 3) := by decide +kernel
theorem dX1_joinTwo_138 : decode cX1_joinTwo 138 = .ok (.aload_n 2, 1) := by decide +kernel
theorem dX1_joinTwo_139 : decode cX1_joinTwo 139 = .ok (.getfield 24, 3) := by decide +kernel
theorem dX1_joinTwo_142 : decode cX1_joinTwo 142 = .ok (.iload 5, 2) := by decide +kernel
theorem dX1_joinTwo_144 : decode cX1_joinTwo 144 = .ok (.iaload, 1) := by decide +kernel
theorem dX1_joinTwo_145 : decode cX1_joinTwo 145 = .ok (.iload 6, 2) := by decide +kernel
theorem dX1_joinTwo_147 : decode cX1_joinTwo 147 = .ok (.if_icmp .ne 62, 3) := by decide +kernel
theorem dX1_joinTwo_150 : decode cX1_joinTwo 150 = .ok (.aload_n 2, 1) := by decide +kernel
theorem dX1_joinTwo_151 : decode cX1_joinTwo 151 = .ok (.getfield 18, 3) := by decide +kernel
theorem dX1_joinTwo_154 : decode cX1_joinTwo 154 = .ok (.iload 5, 2) := by decide +kernel
theorem dX1_joinTwo_156 : decode cX1_joinTwo 156 = .ok (.iaload, 1) := by decide +kernel
theorem dX1_joinTwo_157 : decode cX1_joinTwo 157 = .ok (.aload_n 1, 1) := by decide +kernel
theorem dX1_joinTwo_158 : decode cX1_joinTwo 158 = .ok (.getfield 43, 3) := by decide +kernel
theorem dX1_joinTwo_161 : decode cX1_joinTwo 161 = .ok (.iload_n 3, 1) := by decide +kernel
theorem dX1_joinTwo_162 : decode cX1_joinTwo 162 = .ok (.iload 4, 2) := by decide +kernel
theorem dX1_joinTwo_164 : decode cX1_joinTwo 164 = .ok (.invokestatic 94, 3) := by decide +kernel
theorem dX1_joinTwo_167 : decode cX1_joinTwo 167 = .ok (.istore 7, 2) := by decide +kernel
theorem dX1_joinTwo_169 : decode cX1_joinTwo 169 = .ok (.aload_n 2, 1) := by decide +kernel
theorem dX1_joinTwo_170 : decode cX1_joinTwo 170 = .ok (.getfield 21, 3) := by decide +kernel
theorem dX1_joinTwo_173 : decode cX1_joinTwo 173 = .ok (.iload 5, 2) := by decide +kernel
theorem dX1_joinTwo_175 : decode cX1_joinTwo 175 = .ok (.iaload, 1) := by decide +kernel
theorem dX1_joinTwo_176 : decode cX1_joinTwo 176 = .ok (.aload_n 1, 1) := by decide +kernel
theorem dX1_joinTwo_177 : decode cX1_joinTwo 177 = .ok (.getfield 43, 3) := by decide +kernel
theorem dX1_joinTwo_180 : decode cX1_joinTwo 180 = .ok (.iload_n 3, 1) := by decide +kernel
theorem dX1_joinTwo_181 : decode cX1_joinTwo 181 = .ok (.iload 4, 2) := by decide +kernel
theorem dX1_joinTwo_183 : decode cX1_joinTwo 183 = .ok (.invokestatic 94, 3) := by decide +kernel
theorem dX1_joinTwo_186 : decode cX1_joinTwo 186 = .ok (.istore 8, 2) := by decide +kernel
theorem dX1_joinTwo_188 : decode cX1_joinTwo 188 = .ok (.aload_n 0, 1) := by decide +kernel
theorem dX1_joinTwo_189 : decode cX1_joinTwo 189 = .ok (.aload_n 2, 1) := by decide +kernel
theorem dX1_joinTwo_190 : decode cX1_joinTwo 190 = .ok (.getfield 15, 3) := by decide +kernel
theorem dX1_joinTwo_193 : decode cX1_joinTwo 193 = .ok (.iload 5, 2) := by decide +kernel
theorem dX1_joinTwo_195 : decode cX1_joinTwo 195 = .ok (.iaload, 1) := by decide +kernel
theorem dX1_joinTwo_196 : decode cX1_joinTwo 196 = .ok (.iload 7, 2) := by decide +kernel
theorem dX1_joinTwo_198 : decode cX1_joinTwo 198 = .ok (.iload 8, 2) := by decide +kernel
theorem dX1_joinTwo_200 : decode cX1_joinTwo 200 = .ok (.invokevirtual 90, 3) := by decide +kernel
theorem dX1_joinTwo_203 : decode cX1_joinTwo 203 = .ok (.iinc 5 1, 3) := by decide +kernel
theorem dX1_joinTwo_206 : decode cX1_joinTwo 206 = .ok (.goto (-77), 3) := by decide +kernel
theorem dX1_joinTwo_209 : decode cX1_joinTwo 209 = .ok (.iinc 6 1, 3) := by decide +kernel
theorem dX1_joinTwo_212 : decode cX1_joinTwo 212 = .ok (.goto (-103), 3) := by decide +kernel
theorem dX1_joinTwo_215 : decode cX1_joinTwo 215 = .ok (.return_, 1) := by decide +kernel
theorem dX1_joinedNumber_0 : decode cX1_joinedNumber 0 = .ok (.iload_n 0, 1) := by decide +kernel
theorem dX1_joinedNumber_1 : decode cX1_joinedNumber 1 = .ok (.iload_n 3, 1) := by decide +kernel
theorem dX1_joinedNumber_2 : decode cX1_joinedNumber 2 = .ok (.if_icmp .ne 5, 3) := by decide +kernel
theorem dX1_joinedNumber_5 : decode cX1_joinedNumber 5 = .ok (.iload_n 2, 1) := by decide +kernel
theorem dX1_joinedNumber_6 : decode cX1_joinedNumber 6 = .ok (.ireturn, 1) := by decide +kernel
theorem dX1_joinedNumber_7 : decode cX1_joinedNumber 7 = .ok (.iload_n 1, 1) := by decide +kernel
theorem dX1_joinedNumber_8 : decode cX1_joinedNumber 8 = .ok (.iload_n 0, 1) := by decide +kernel
theorem dX1_joinedNumber_9 : decode cX1_joinedNumber 9 = .ok (.iadd, 1) := by decide +kernel
theorem dX1_joinedNumber_10 : decode cX1_joinedNumber 10 = .ok (.iload_n 0, 1) := by decide +kernel
theorem dX1_joinedNumber_11 : decode cX1_joinedNumber 11 = .ok (.iload_n 3, 1) := by decide +kernel
theorem dX1_joinedNumber_12 : decode cX1_joinedNumber 12 = .ok (.if_icmp .le 7, 3) := by decide +kernel
theorem dX1_joinedNumber_15 : decode cX1_joinedNumber 15 = .ok (.iconst 1, 1) := by decide +kernel
theorem dX1_joinedNumber_16 : decode cX1_joinedNumber 16 = .ok (.goto 4, 3) := by decide +kernel
theorem dX1_joinedNumber_19 : decode cX1_joinedNumber 19 = .ok (.iconst 0, 1) := by decide +kernel
theorem dX1_joinedNumber_20 : decode cX1_joinedNumber 20 = .ok (.isub, 1) := by decide +kernel
theorem dX1_joinedNumber_21 : decode cX1_joinedNumber 21 = .ok (.ireturn, 1) := by decide +kernel
theorem dX2_init_0 : decode cX2_init 0 = .ok (.aload_n 0, 1) := by decide +kernel
theorem dX2_init_1 : decode cX2_init 1 = .ok (.invokespecial 3, 3) := by decide +kernel
theorem dX2_init_4 : decode cX2_init 4 = .ok (.aload_n 0, 1) := by decide +kernel
theorem dX2_init_5 : decode cX2_init 5 = .ok (.new 9, 3) := by decide +kernel
theorem dX2_init_8 : decode cX2_init 8 = .ok (.dup, 1) := by decide +kernel
theorem dX2_init_9 : decode cX2_init 9 = .ok (.invokespecial 11, 3) := by decide +kernel
theorem dX2_init_12 : decode cX2_init 12 = .ok (.putfield 12, 3) := by decide +kernel
theorem dX2_init_15 : decode cX2_init 15 = .ok (.aload_n 0, 1) := by decide +kernel
theorem dX2_init_16 : decode cX2_init 16 = .ok (.bipush 30, 2) := by decide +kernel
theorem dX2_init_18 : decode cX2_init 18 = .ok (.newarray .int, 2) := by decide +kernel
theorem dX2_init_20 : decode cX2_init 20 = .ok (.putfield 18, 3) := by decide +kernel
theorem dX2_init_23 : decode cX2_init 23 = .ok (.aload_n 0, 1) := by decide +kernel
theorem dX2_init_24 : decode cX2_init 24 = .ok (.bipush 8, 2) := by decide +kernel
theorem dX2_init_26 : decode cX2_init 26 = .ok (.newarray .int, 2) := by decide +kernel
theorem dX2_init_28 : decode cX2_init 28 = .ok (.putfield 22, 3) := by decide +kernel
theorem dX2_init_31 : decode cX2_init 31 = .ok (.aload_n 0, 1) := by decide +kernel
theorem dX2_init_32 : decode cX2_init 32 = .ok (.bipush 6, 2) := by decide +kernel
theorem dX2_init_34 : decode cX2_init 34 = .ok (.newarray .int, 2) := by decide +kernel
theorem dX2_init_36 : decode cX2_init 36 = .ok (.putfield 25, 3) := by decide +kernel
theorem dX2_init_39 : decode cX2_init 39 = .ok (.return_, 1) := by decide +kernel
theorem dX2_read_0 : decode cX2_read 0 = .ok (.aload_n 0, 1) := by decide +kernel
theorem dX2_read_1 : decode cX2_read 1 = .ok (.iload_n 2, 1) := by decide +kernel
theorem dX2_read_2 : decode cX2_read 2 = .ok (.invokevirtual 28, 3) := by decide +kernel
theorem dX2_read_5 : decode cX2_read 5 = .ok (.iconst 0, 1) := by decide +kernel
theorem dX2_read_6 : decode cX2_read 6 = .ok (.istore_n 3, 1) := by decide +kernel
theorem dX2_read_7 : decode cX2_read 7 = .ok (.iload_n 3, 1) := by decide +kernel
theorem dX2_read_8 : decode cX2_read 8 = .ok (.aload_n 1, 1) := by decide +kernel
theorem dX2_read_9 : decode cX2_read 9 = .ok (.getfield 32, 3) := by decide +kernel
theorem dX2_read_12 : decode cX2_read 12 = .ok (.if_icmp .ge 33, 3) := by decide +kernel
theorem dX2_read_15 : decode cX2_read 15 = .ok (.aload_n 0, 1) := by decide +kernel
theorem dX2_read_16 : decode cX2_read 16 = .ok (.aload_n 1, 1) := by decide +kernel
theorem dX2_read_17 : decode cX2_read 17 = .ok (.iload_n 3, 1) := by decide +kernel
theorem dX2_read_18 : decode cX2_read 18 = .ok (.invokevirtual 38, 3) := by decide +kernel
theorem dX2_read_21 : decode cX2_read 21 = .ok (.aload_n 1, 1) := by decide +kernel
theorem dX2_read_22 : decode cX2_read 22 = .ok (.iload_n 3, 1) := by decide +kernel
theorem dX2_read_23 : decode cX2_read 23 = .ok (.iconst 1, 1) := by decide +kernel
theorem dX2_read_24 : decode cX2_read 24 = .ok (.iadd, 1) := by decide +kernel
theorem dX2_read_25 : decode cX2_read 25 = .ok (.invokevirtual 38, 3) := by decide +kernel
theorem dX2_read_28 : decode cX2_read 28 = .ok (.invokestatic 42, 3) := by decide +kernel
theorem dX2_read_31 : decode cX2_read 31 = .ok (.invokevirtual 46, 3) := by decide +kernel
theorem dX2_read_34 : decode cX2_read 34 = .ok (.ifCond .ne 5, 3) := by decide +kernel
theorem dX2_read_37 : decode cX2_read 37 = .ok (.iload_n 3, 1) := by decide +kernel
theorem dX2_read_38 : decode cX2_read 38 = .ok (.ireturn, 1) := by decide +kernel
theorem dX2_read_39 : decode cX2_read 39 = .ok (.iinc 3 1, 3) := by decide +kernel
theorem dX2_read_42 : decode cX2_read 42 = .ok (.goto (-35), 3) := by decide +kernel
theorem dX2_read_45 : decode cX2_read 45 = .ok (.aload_n 0, 1) := by decide +kernel
theorem dX2_read_46 : decode cX2_read 46 = .ok (.getfield 50, 3) := by decide +kernel
theorem dX2_read_49 : decode cX2_read 49 = .ok (.iconst 2, 1) := by decide +kernel
theorem dX2_read_50 : decode cX2_read 50 = .ok (.if_icmp .ne 17, 3) := by decide +kernel
theorem dX2_read_53 : decode cX2_read 53 = .ok (.aload_n 0, 1) := by decide +kernel
theorem dX2_read_54 : decode cX2_read 54 = .ok (.getfield 53, 3) := by decide +kernel
theorem dX2_read_57 : decode cX2_read 57 = .ok (.ifCond .ne 10, 3) := by decide +kernel
theorem dX2_read_60 : decode cX2_read 60 = .ok (.aload_n 0, 1) := by decide +kernel
theorem dX2_read_61 : decode cX2_read 61 = .ok (.getfield 57, 3) := by decide +kernel
theorem dX2_read_64 : decode cX2_read 64 = .ok (.ifCond .le 8, 3) := by decide +kernel
theorem dX2_read_67 : decode cX2_read 67 = .ok (.aload_n 1, 1) := by decide +kernel
theorem dX2_read_68 : decode cX2_read 68 = .ok (.getfield 32, 3) := by decide +kernel
theorem dX2_read_71 : decode cX2_read 71 = .ok (.ireturn, 1) := by decide +kernel
theorem dX2_read_72 : decode cX2_read 72 = .ok (.aload_n 0, 1) := by decide +kernel
theorem dX2_read_73 : decode cX2_read 73 = .ok (.getfield 12, 3) := by decide +kernel
theorem dX2_read_76 : decode cX2_read 76 = .ok (.aload_n 0, 1) := by decide +kernel
theorem dX2_read_77 : decode cX2_read 77 = .ok (.getfield 18, 3) := by decide +kernel
theorem dX2_read_80 : decode cX2_read 80 = .ok (.invokevirtual 60, 3) := by decide +kernel
theorem dX2_read_83 : decode cX2_read 83 = .ok (.iconst (-1), 1) := by decide +kernel
theorem dX2_read_84 : decode cX2_read 84 = .ok (.ireturn, 1) := by decide +kernel
theorem dX2_begin_0 : decode cX2_begin 0 = .ok (.aload_n 0, 1) := by decide +kernel
theorem dX2_begin_1 : decode cX2_begin 1 = .ok (.getfield 12, 3) := by decide +kernel
theorem dX2_begin_4 : decode cX2_begin 4 = .ok (.invokevirtual 64, 3) := by decide +kernel
theorem dX2_begin_7 : decode cX2_begin 7 = .ok (.aload_n 0, 1) := by decide +kernel
theorem dX2_begin_8 : decode cX2_begin 8 = .ok (.getfield 18, 3) := by decide +kernel
theorem dX2_begin_11 : decode cX2_begin 11 = .ok (.iconst 0, 1) := by decide +kernel
theorem dX2_begin_12 : decode cX2_begin 12 = .ok (.invokestatic 67, 3) := by decide +kernel
theorem dX2_begin_15 : decode cX2_begin 15 = .ok (.aload_n 0, 1) := by decide +kernel
theorem dX2_begin_16 : decode cX2_begin 16 = .ok (.getfield 22, 3) := by decide +kernel
theorem dX2_begin_19 : decode cX2_begin 19 = .ok (.iconst (-1), 1) := by decide +kernel
theorem dX2_begin_20 : decode cX2_begin 20 = .ok (.invokestatic 67, 3) := by decide +kernel
theorem dX2_begin_23 : decode cX2_begin 23 = .ok (.aload_n 0, 1) := by decide +kernel
theorem dX2_begin_24 : decode cX2_begin 24 = .ok (.iload_n 1, 1) := by decide +kernel
theorem dX2_begin_25 : decode cX2_begin 25 = .ok (.putfield 73, 3) := by decide +kernel
theorem dX2_begin_28 : decode cX2_begin 28 = .ok (.aload_n 0, 1) := by decide +kernel
theorem dX2_begin_29 : decode cX2_begin 29 = .ok (.iconst 0, 1) := by decide +kernel
theorem dX2_begin_30 : decode cX2_begin 30 = .ok (.putfield 50, 3) := by decide +kernel
theorem dX2_begin_33 : decode cX2_begin 33 = .ok (.aload_n 0, 1) := by decide +kernel
theorem dX2_begin_34 : decode cX2_begin 34 = .ok (.iconst 0, 1) := by decide +kernel
theorem dX2_begin_35 : decode cX2_begin 35 = .ok (.putfield 76, 3) := by decide +kernel
theorem dX2_begin_38 : decode cX2_begin 38 = .ok (.aload_n 0, 1) := by decide +kernel
theorem dX2_begin_39 : decode cX2_begin 39 = .ok (.iconst 0, 1) := by decide +kernel
theorem dX2_begin_40 : decode cX2_begin 40 = .ok (.putfield 57, 3) := by decide +kernel
theorem dX2_begin_43 : decode cX2_begin 43 = .ok (.aload_n 0, 1) := by decide +kernel
theorem dX2_begin_44 : decode cX2_begin 44 = .ok (.iconst 0, 1) := by decide +kernel
theorem dX2_begin_45 : decode cX2_begin 45 = .ok (.putfield 79, 3) := by decide +kernel
theorem dX2_begin_48 : decode cX2_begin 48 = .ok (.aload_n 0, 1) := by decide +kernel
theorem dX2_begin_49 : decode cX2_begin 49 = .ok (.iconst 0, 1) := by decide +kernel
theorem dX2_begin_50 : decode cX2_begin 50 = .ok (.putfield 82, 3) := by decide +kernel
theorem dX2_begin_53 : decode cX2_begin 53 = .ok (.aload_n 0, 1) := by decide +kernel
theorem dX2_begin_54 : decode cX2_begin 54 = .ok (.iconst 0, 1) := by decide +kernel
theorem dX2_begin_55 : decode cX2_begin 55 = .ok (.putfield 53, 3) := by decide +kernel
theorem dX2_begin_58 : decode cX2_begin 58 = .ok (.return_, 1) := by decide +kernel
theorem dX2_takes_0 : decode cX2_takes 0 = .ok (.aload_n 0, 1) := by decide +kernel
theorem dX2_takes_1 : decode cX2_takes 1 = .ok (.getfield 50, 3) := by decide +kernel
theorem dX2_takes_4 : decode cX2_takes 4 = .ok (.iconst 2, 1) := by decide +kernel
theorem dX2_takes_5 : decode cX2_takes 5 = .ok (.if_icmp .ne 20, 3) := by decide +kernel
theorem dX2_takes_8 : decode cX2_takes 8 = .ok (.iload_n 1, 1) := by decide +kernel
theorem dX2_takes_9 : decode cX2_takes 9 = .ok (.invokestatic 42, 3) := by decide +kernel
theorem dX2_takes_12 : decode cX2_takes 12 = .ok (.ifCond .eq 13, 3) := by decide +kernel
theorem dX2_takes_15 : decode cX2_takes 15 = .ok (.aload_n 0, 1) := by decide +kernel
theorem dX2_takes_16 : decode cX2_takes 16 = .ok (.iload_n 1, 1) := by decide +kernel
theorem dX2_takes_17 : decode cX2_takes 17 = .ok (.bipush 48, 2) := by decide +kernel
theorem dX2_takes_19 : decode cX2_takes 19 = .ok (.isub, 1) := by decide +kernel
theorem dX2_takes_20 : decode cX2_takes 20 = .ok (.iload_n 2, 1) := by decide +kernel
theorem dX2_takes_21 : decode cX2_takes 21 = .ok (.invokevirtual 85, 3) := by decide +kernel
theorem dX2_takes_24 : decode cX2_takes 24 = .ok (.ireturn, 1) := by decide +kernel
theorem dX2_takes_25 : decode cX2_takes 25 = .ok (.aload_n 0, 1) := by decide +kernel
theorem dX2_takes_26 : decode cX2_takes 26 = .ok (.iconst 0, 1) := by decide +kernel
theorem dX2_takes_27 : decode cX2_takes 27 = .ok (.putfield 79, 3) := by decide +kernel
theorem dX2_takes_30 : decode cX2_takes 30 = .ok (.iload_n 1, 1) := by decide +kernel
theorem dX2_takes_31 : decode cX2_takes 31 = .ok (.bipush 32, 2) := by decide +kernel
theorem dX2_takes_33 : decode cX2_takes 33 = .ok (.if_icmp .ne 5, 3) := by decide +kernel
theorem dX2_takes_36 : decode cX2_takes 36 = .ok (.iconst 1, 1) := by decide +kernel
theorem dX2_takes_37 : decode cX2_takes 37 = .ok (.ireturn, 1) := by decide +kernel
theorem dX2_takes_38 : decode cX2_takes 38 = .ok (.aload_n 0, 1) := by decide +kernel
theorem dX2_takes_39 : decode cX2_takes 39 = .ok (.getfield 50, 3) := by decide +kernel
theorem dX2_takes_42 : decode cX2_takes 42 = .ok (.ifCond .ne 20, 3) := by decide +kernel
theorem dX2_takes_45 : decode cX2_takes 45 = .ok (.aload_n 0, 1) := by decide +kernel
theorem dX2_takes_46 : decode cX2_takes 46 = .ok (.iconst 1, 1) := by decide +kernel
theorem dX2_takes_47 : decode cX2_takes 47 = .ok (.putfield 50, 3) := by decide +kernel
theorem dX2_takes_50 : decode cX2_takes 50 = .ok (.iload_n 1, 1) := by decide +kernel
theorem dX2_takes_51 : decode cX2_takes 51 = .ok (.bipush 35, 2) := by decide +kernel
theorem dX2_takes_53 : decode cX2_takes 53 = .ok (.if_icmp .ne 7, 3) := by decide +kernel
theorem dX2_takes_56 : decode cX2_takes 56 = .ok (.iconst 1, 1) := by decide +kernel
theorem dX2_takes_57 : decode cX2_takes 57 = .ok (.goto 4, 3) := by decide +kernel
theorem dX2_takes_60 : decode cX2_takes 60 = .ok (.iconst 0, 1) := by decide +kernel
theorem dX2_takes_61 : decode cX2_takes 61 = .ok (.ireturn, 1) := by decide +kernel
theorem dX2_takes_62 : decode cX2_takes 62 = .ok (.aload_n 0, 1) := by decide +kernel
theorem dX2_takes_63 : decode cX2_takes 63 = .ok (.getfield 50, 3) := by decide +kernel
theorem dX2_takes_66 : decode cX2_takes 66 = .ok (.iconst 1, 1) := by decide +kernel
theorem dX2_takes_67 : decode cX2_takes 67 = .ok (.if_icmp .ne 12, 3) := by decide +kernel
theorem dX2_takes_70 : decode cX2_takes 70 = .ok (.aload_n 0, 1) := by decide +kernel
theorem dX2_takes_71 : decode cX2_takes 71 = .ok (.iload_n 1, 1) := by decide +kernel
theorem dX2_takes_72 : decode cX2_takes 72 = .ok (.bipush 48, 2) := by decide +kernel
theorem dX2_takes_74 : decode cX2_takes 74 = .ok (.isub, 1) := by decide +kernel
theorem dX2_takes_75 : decode cX2_takes 75 = .ok (.invokevirtual 88, 3) := by decide +kernel
theorem dX2_takes_78 : decode cX2_takes 78 = .ok (.ireturn, 1) := by decide +kernel
theorem dX2_takes_79 : decode cX2_takes 79 = .ok (.aload_n 0, 1) := by decide +kernel
theorem dX2_takes_80 : decode cX2_takes 80 = .ok (.iload_n 1, 1) := by decide +kernel
theorem dX2_takes_81 : decode cX2_takes 81 = .ok (.invokevirtual 91, 3) := by decide +kernel
theorem dX2_takes_84 : decode cX2_takes 84 = .ok (.ireturn, 1) := by decide +kernel
theorem dX2_takesSort_0 : decode cX2_takesSort 0 = .ok (.iload_n 1, 1) := by decide +kernel
theorem dX2_takesSort_1 : decode cX2_takesSort 1 = .ok (.ifCond .lt 11, 3) := by decide +kernel
theorem dX2_takesSort_4 : decode cX2_takesSort 4 = .ok (.iload_n 1, 1) := by decide +kernel
theorem dX2_takesSort_5 : decode cX2_takesSort 5 = .ok (.aload_n 0, 1) := by decide +kernel
theorem dX2_takesSort_6 : decode cX2_takesSort 6 = .ok (.getfield 73, 3) := by decide +kernel
theorem dX2_takesSort_9 : decode cX2_takesSort 9 = .ok (.if_icmp .lt 5, 3) := by decide +kernel
theorem dX2_takesSort_12 : decode cX2_takesSort 12 = .ok (.iconst 0, 1) := by decide +kernel
theorem dX2_takesSort_13 : decode cX2_takesSort 13 = .ok (.ireturn, 1) := by decide +kernel
theorem dX2_takesSort_14 : decode cX2_takesSort 14 = .ok (.aload_n 0, 1) := by decide +kernel
theorem dX2_takesSort_15 : decode cX2_takesSort 15 = .ok (.getfield 12, 3) := by decide +kernel
theorem dX2_takesSort_18 : decode cX2_takesSort 18 = .ok (.iload_n 1, 1) := by decide +kernel
theorem dX2_takesSort_19 : decode cX2_takesSort 19 = .ok (.invokevirtual 94, 3) := by decide +kernel
theorem dX2_takesSort_22 : decode cX2_takesSort 22 = .ok (.aload_n 0, 1) := by decide +kernel
theorem dX2_takesSort_23 : decode cX2_takesSort 23 = .ok (.aload_n 0, 1) := by decide +kernel
theorem dX2_takesSort_24 : decode cX2_takesSort 24 = .ok (.invokevirtual 97, 3) := by decide +kernel
theorem dX2_takesSort_27 : decode cX2_takesSort 27 = .ok (.putfield 76, 3) := by decide +kernel
theorem dX2_takesSort_30 : decode cX2_takesSort 30 = .ok (.aload_n 0, 1) := by decide +kernel
theorem dX2_takesSort_31 : decode cX2_takesSort 31 = .ok (.iconst 2, 1) := by decide +kernel
theorem dX2_takesSort_32 : decode cX2_takesSort 32 = .ok (.putfield 50, 3) := by decide +kernel
theorem dX2_takesSort_35 : decode cX2_takesSort 35 = .ok (.aload_n 0, 1) := by decide +kernel
theorem dX2_takesSort_36 : decode cX2_takesSort 36 = .ok (.iconst 1, 1) := by decide +kernel
theorem dX2_takesSort_37 : decode cX2_takesSort 37 = .ok (.putfield 53, 3) := by decide +kernel
theorem dX2_takesSort_40 : decode cX2_takesSort 40 = .ok (.iconst 1, 1) := by decide +kernel
theorem dX2_takesSort_41 : decode cX2_takesSort 41 = .ok (.ireturn, 1) := by decide +kernel
theorem dX2_takesDigit_0 : decode cX2_takesDigit 0 = .ok (.aload_n 0, 1) := by decide +kernel
theorem dX2_takesDigit_1 : decode cX2_takesDigit 1 = .ok (.getfield 79, 3) := by decide +kernel
theorem dX2_takesDigit_4 : decode cX2_takesDigit 4 = .ok (.iconst 2, 1) := by decide +kernel
theorem dX2_takesDigit_5 : decode cX2_takesDigit 5 = .ok (.if_icmp .eq 22, 3) := by decide +kernel
theorem dX2_takesDigit_8 : decode cX2_takesDigit 8 = .ok (.aload_n 0, 1) := by decide +kernel
theorem dX2_takesDigit_9 : decode cX2_takesDigit 9 = .ok (.getfield 79, 3) := by decide +kernel
theorem dX2_takesDigit_12 : decode cX2_takesDigit 12 = .ok (.ifCond .ne 17, 3) := by decide +kernel
theorem dX2_takesDigit_15 : decode cX2_takesDigit 15 = .ok (.aload_n 0, 1) := by decide +kernel
theorem dX2_takesDigit_16 : decode cX2_takesDigit 16 = .ok (.getfield 12, 3) := by decide +kernel
theorem dX2_takesDigit_19 : decode cX2_takesDigit 19 = .ok (.getfield 101, 3) := by decide +kernel
theorem dX2_takesDigit_22 : decode cX2_takesDigit 22 = .ok (.bipush 24, 2) := by decide +kernel
theorem dX2_takesDigit_24 : decode cX2_takesDigit 24 = .ok (.if_icmp .lt 5, 3) := by decide +kernel
theorem dX2_takesDigit_27 : decode cX2_takesDigit 27 = .ok (.iconst 0, 1) := by decide +kernel
theorem dX2_takesDigit_28 : decode cX2_takesDigit 28 = .ok (.ireturn, 1) := by decide +kernel
theorem dX2_takesDigit_29 : decode cX2_takesDigit 29 = .ok (.aload_n 0, 1) := by decide +kernel
theorem dX2_takesDigit_30 : decode cX2_takesDigit 30 = .ok (.aload_n 0, 1) := by decide +kernel
theorem dX2_takesDigit_31 : decode cX2_takesDigit 31 = .ok (.getfield 79, 3) := by decide +kernel
theorem dX2_takesDigit_34 : decode cX2_takesDigit 34 = .ok (.ifCond .ne 7, 3) := by decide +kernel
theorem dX2_takesDigit_37 : decode cX2_takesDigit 37 = .ok (.iload_n 1, 1) := by decide +kernel
theorem dX2_takesDigit_38 : decode cX2_takesDigit 38 = .ok (.goto 12, 3) := by decide +kernel
theorem dX2_takesDigit_41 : decode cX2_takesDigit 41 = .ok (.aload_n 0, 1) := by decide +kernel
theorem dX2_takesDigit_42 : decode cX2_takesDigit 42 = .ok (.getfield 82, 3) := by decide +kernel
theorem dX2_takesDigit_45 : decode cX2_takesDigit 45 = .ok (.bipush 10, 2) := by decide +kernel
theorem dX2_takesDigit_47 : decode cX2_takesDigit 47 = .ok (.imul, 1) := by decide +kernel
theorem dX2_takesDigit_48 : decode cX2_takesDigit 48 = .ok (.iload_n 1, 1) := by decide +kernel
theorem dX2_takesDigit_49 : decode cX2_takesDigit 49 = .ok (.iadd, 1) := by decide +kernel
theorem dX2_takesDigit_50 : decode cX2_takesDigit 50 = .ok (.putfield 82, 3) := by decide +kernel
theorem dX2_takesDigit_53 : decode cX2_takesDigit 53 = .ok (.aload_n 0, 1) := by decide +kernel
theorem dX2_takesDigit_54 : decode cX2_takesDigit 54 = .ok (.dup, 1) := by decide +kernel
theorem dX2_takesDigit_55 : decode cX2_takesDigit 55 = .ok (.getfield 79, 3) := by decide +kernel
theorem dX2_takesDigit_58 : decode cX2_takesDigit 58 = .ok (.iconst 1, 1) := by decide +kernel
theorem dX2_takesDigit_59 : decode cX2_takesDigit 59 = .ok (.iadd, 1) := by decide +kernel
theorem dX2_takesDigit_60 : decode cX2_takesDigit 60 = .ok (.putfield 79, 3) := by decide +kernel
theorem dX2_takesDigit_63 : decode cX2_takesDigit 63 = .ok (.aload_n 0, 1) := by decide +kernel
theorem dX2_takesDigit_64 : decode cX2_takesDigit 64 = .ok (.getfield 79, 3) := by decide +kernel
theorem dX2_takesDigit_67 : decode cX2_takesDigit 67 = .ok (.iconst 1, 1) := by decide +kernel
theorem dX2_takesDigit_68 : decode cX2_takesDigit 68 = .ok (.if_icmp .ne 9, 3) := by decide +kernel
theorem dX2_takesDigit_71 : decode cX2_takesDigit 71 = .ok (.iload_n 2, 1) := by decide +kernel
theorem dX2_takesDigit_72 : decode cX2_takesDigit 72 = .ok (.ifCond .eq 5, 3) := by decide +kernel
theorem dX2_takesDigit_75 : decode cX2_takesDigit 75 = .ok (.iconst 1, 1) := by decide +kernel
theorem dX2_takesDigit_76 : decode cX2_takesDigit 76 = .ok (.ireturn, 1) := by decide +kernel
theorem dX2_takesDigit_77 : decode cX2_takesDigit 77 = .ok (.aload_n 0, 1) := by decide +kernel
theorem dX2_takesDigit_78 : decode cX2_takesDigit 78 = .ok (.invokevirtual 104, 3) := by decide +kernel
theorem dX2_takesDigit_81 : decode cX2_takesDigit 81 = .ok (.ireturn, 1) := by decide +kernel
theorem dX2_makesBubble_0 : decode cX2_makesBubble 0 = .ok (.aload_n 0, 1) := by decide +kernel
theorem dX2_makesBubble_1 : decode cX2_makesBubble 1 = .ok (.getfield 82, 3) := by decide +kernel
theorem dX2_makesBubble_4 : decode cX2_makesBubble 4 = .ok (.iconst 1, 1) := by decide +kernel
theorem dX2_makesBubble_5 : decode cX2_makesBubble 5 = .ok (.if_icmp .lt 12, 3) := by decide +kernel
theorem dX2_makesBubble_8 : decode cX2_makesBubble 8 = .ok (.aload_n 0, 1) := by decide +kernel
theorem dX2_makesBubble_9 : decode cX2_makesBubble 9 = .ok (.getfield 82, 3) := by decide +kernel
theorem dX2_makesBubble_12 : decode cX2_makesBubble 12 = .ok (.bipush 30, 2) := by decide +kernel
theorem dX2_makesBubble_14 : decode cX2_makesBubble 14 = .ok (.if_icmp .le 5, 3) := by decide +kernel
theorem dX2_makesBubble_17 : decode cX2_makesBubble 17 = .ok (.iconst 0, 1) := by decide +kernel
theorem dX2_makesBubble_18 : decode cX2_makesBubble 18 = .ok (.ireturn, 1) := by decide +kernel
theorem dX2_makesBubble_19 : decode cX2_makesBubble 19 = .ok (.aload_n 0, 1) := by decide +kernel
theorem dX2_makesBubble_20 : decode cX2_makesBubble 20 = .ok (.invokevirtual 97, 3) := by decide +kernel
theorem dX2_makesBubble_23 : decode cX2_makesBubble 23 = .ok (.istore_n 1, 1) := by decide +kernel
theorem dX2_makesBubble_24 : decode cX2_makesBubble 24 = .ok (.aload_n 0, 1) := by decide +kernel
theorem dX2_makesBubble_25 : decode cX2_makesBubble 25 = .ok (.getfield 12, 3) := by decide +kernel
theorem dX2_makesBubble_28 : decode cX2_makesBubble 28 = .ok (.aload_n 0, 1) := by decide +kernel
theorem dX2_makesBubble_29 : decode cX2_makesBubble 29 = .ok (.getfield 82, 3) := by decide +kernel
theorem dX2_makesBubble_32 : decode cX2_makesBubble 32 = .ok (.aload_n 0, 1) := by decide +kernel
theorem dX2_makesBubble_33 : decode cX2_makesBubble 33 = .ok (.getfield 76, 3) := by decide +kernel
theorem dX2_makesBubble_36 : decode cX2_makesBubble 36 = .ok (.iload_n 1, 1) := by decide +kernel
theorem dX2_makesBubble_37 : decode cX2_makesBubble 37 = .ok (.invokevirtual 108, 3) := by decide +kernel
theorem dX2_makesBubble_40 : decode cX2_makesBubble 40 = .ok (.aload_n 0, 1) := by decide +kernel
theorem dX2_makesBubble_41 : decode cX2_makesBubble 41 = .ok (.iload_n 1, 1) := by decide +kernel
theorem dX2_makesBubble_42 : decode cX2_makesBubble 42 = .ok (.putfield 76, 3) := by decide +kernel
theorem dX2_makesBubble_45 : decode cX2_makesBubble 45 = .ok (.aload_n 0, 1) := by decide +kernel
theorem dX2_makesBubble_46 : decode cX2_makesBubble 46 = .ok (.iconst 0, 1) := by decide +kernel
theorem dX2_makesBubble_47 : decode cX2_makesBubble 47 = .ok (.putfield 53, 3) := by decide +kernel
theorem dX2_makesBubble_50 : decode cX2_makesBubble 50 = .ok (.iconst 1, 1) := by decide +kernel
theorem dX2_makesBubble_51 : decode cX2_makesBubble 51 = .ok (.ireturn, 1) := by decide +kernel
theorem dX2_takesMove_0 : decode cX2_takesMove 0 = .ok (.iload_n 1, 1) := by decide +kernel
theorem dX2_takesMove_1 : decode cX2_takesMove 1 = .ok (.bipush 97, 2) := by decide +kernel
theorem dX2_takesMove_3 : decode cX2_takesMove 3 = .ok (.if_icmp .lt 19, 3) := by decide +kernel
theorem dX2_takesMove_6 : decode cX2_takesMove 6 = .ok (.iload_n 1, 1) := by decide +kernel
theorem dX2_takesMove_7 : decode cX2_takesMove 7 = .ok (.bipush 105, 2) := by decide +kernel
theorem dX2_takesMove_9 : decode cX2_takesMove 9 = .ok (.if_icmp .ge 13, 3) := by decide +kernel
theorem dX2_takesMove_12 : decode cX2_takesMove 12 = .ok (.aload_n 0, 1) := by decide +kernel
theorem dX2_takesMove_13 : decode cX2_takesMove 13 = .ok (.iload_n 1, 1) := by decide +kernel
theorem dX2_takesMove_14 : decode cX2_takesMove 14 = .ok (.bipush 97, 2) := by decide +kernel
theorem dX2_takesMove_16 : decode cX2_takesMove 16 = .ok (.isub, 1) := by decide +kernel
theorem dX2_takesMove_17 : decode cX2_takesMove 17 = .ok (.invokevirtual 112, 3) := by decide +kernel
theorem dX2_takesMove_20 : decode cX2_takesMove 20 = .ok (.iconst 1, 1) := by decide +kernel
theorem dX2_takesMove_21 : decode cX2_takesMove 21 = .ok (.ireturn, 1) := by decide +kernel
theorem dX2_takesMove_22 : decode cX2_takesMove 22 = .ok (.iload_n 1, 1) := by decide +kernel
theorem dX2_takesMove_23 : decode cX2_takesMove 23 = .ok (.lookupswitch 48 #[(40, 33), (41, 38), (47, 43)], 33) := by decide +kernel
theorem dX2_takesMove_56 : decode cX2_takesMove 56 = .ok (.aload_n 0, 1) := by decide +kernel
theorem dX2_takesMove_57 : decode cX2_takesMove 57 = .ok (.invokevirtual 115, 3) := by decide +kernel
theorem dX2_takesMove_60 : decode cX2_takesMove 60 = .ok (.ireturn, 1) := by decide +kernel
theorem dX2_takesMove_61 : decode cX2_takesMove 61 = .ok (.aload_n 0, 1) := by decide +kernel
theorem dX2_takesMove_62 : decode cX2_takesMove 62 = .ok (.invokevirtual 118, 3) := by decide +kernel
theorem dX2_takesMove_65 : decode cX2_takesMove 65 = .ok (.ireturn, 1) := by decide +kernel
theorem dX2_takesMove_66 : decode cX2_takesMove 66 = .ok (.aload_n 0, 1) := by decide +kernel
theorem dX2_takesMove_67 : decode cX2_takesMove 67 = .ok (.invokevirtual 121, 3) := by decide +kernel
theorem dX2_takesMove_70 : decode cX2_takesMove 70 = .ok (.ireturn, 1) := by decide +kernel
theorem dX2_takesMove_71 : decode cX2_takesMove 71 = .ok (.iconst 0, 1) := by decide +kernel
theorem dX2_takesMove_72 : decode cX2_takesMove 72 = .ok (.ireturn, 1) := by decide +kernel
theorem dX2_nameHere_0 : decode cX2_nameHere 0 = .ok (.aload_n 0, 1) := by decide +kernel
theorem dX2_nameHere_1 : decode cX2_nameHere 1 = .ok (.iconst 0, 1) := by decide +kernel
theorem dX2_nameHere_2 : decode cX2_nameHere 2 = .ok (.putfield 53, 3) := by decide +kernel
theorem dX2_nameHere_5 : decode cX2_nameHere 5 = .ok (.aload_n 0, 1) := by decide +kernel
theorem dX2_nameHere_6 : decode cX2_nameHere 6 = .ok (.getfield 22, 3) := by decide +kernel
theorem dX2_nameHere_9 : decode cX2_nameHere 9 = .ok (.iload_n 1, 1) := by decide +kernel
theorem dX2_nameHere_10 : decode cX2_nameHere 10 = .ok (.iaload, 1) := by decide +kernel
theorem dX2_nameHere_11 : decode cX2_nameHere 11 = .ok (.iconst (-1), 1) := by decide +kernel
theorem dX2_nameHere_12 : decode cX2_nameHere 12 = .ok (.if_icmp .ne 16, 3) := by decide +kernel
theorem dX2_nameHere_15 : decode cX2_nameHere 15 = .ok (.aload_n 0, 1) := by decide +kernel
theorem dX2_nameHere_16 : decode cX2_nameHere 16 = .ok (.getfield 22, 3) := by decide +kernel
theorem dX2_nameHere_19 : decode cX2_nameHere 19 = .ok (.iload_n 1, 1) := by decide +kernel
theorem dX2_nameHere_20 : decode cX2_nameHere 20 = .ok (.aload_n 0, 1) := by decide +kernel
theorem dX2_nameHere_21 : decode cX2_nameHere 21 = .ok (.getfield 76, 3) := by decide +kernel
theorem dX2_nameHere_24 : decode cX2_nameHere 24 = .ok (.iastore, 1) := by decide +kernel
theorem dX2_nameHere_25 : decode cX2_nameHere 25 = .ok (.goto 17, 3) := by decide +kernel
theorem dX2_nameHere_28 : decode cX2_nameHere 28 = .ok (.aload_n 0, 1) := by decide +kernel
theorem dX2_nameHere_29 : decode cX2_nameHere 29 = .ok (.aload_n 0, 1) := by decide +kernel
theorem dX2_nameHere_30 : decode cX2_nameHere 30 = .ok (.getfield 22, 3) := by decide +kernel
theorem dX2_nameHere_33 : decode cX2_nameHere 33 = .ok (.iload_n 1, 1) := by decide +kernel
theorem dX2_nameHere_34 : decode cX2_nameHere 34 = .ok (.iaload, 1) := by decide +kernel
theorem dX2_nameHere_35 : decode cX2_nameHere 35 = .ok (.aload_n 0, 1) := by decide +kernel
theorem dX2_nameHere_36 : decode cX2_nameHere 36 = .ok (.getfield 76, 3) := by decide +kernel
theorem dX2_nameHere_39 : decode cX2_nameHere 39 = .ok (.invokevirtual 124, 3) := by decide +kernel
theorem dX2_nameHere_42 : decode cX2_nameHere 42 = .ok (.return_, 1) := by decide +kernel
theorem dX2_opens_0 : decode cX2_opens 0 = .ok (.aload_n 0, 1) := by decide +kernel
theorem dX2_opens_1 : decode cX2_opens 1 = .ok (.getfield 57, 3) := by decide +kernel
theorem dX2_opens_4 : decode cX2_opens 4 = .ok (.bipush 6, 2) := by decide +kernel
theorem dX2_opens_6 : decode cX2_opens 6 = .ok (.if_icmp .lt 5, 3) := by decide +kernel
theorem dX2_opens_9 : decode cX2_opens 9 = .ok (.iconst 0, 1) := by decide +kernel
theorem dX2_opens_10 : decode cX2_opens 10 = .ok (.ireturn, 1) := by decide +kernel
theorem dX2_opens_11 : decode cX2_opens 11 = .ok (.aload_n 0, 1) := by decide +kernel
theorem dX2_opens_12 : decode cX2_opens 12 = .ok (.getfield 25, 3) := by decide +kernel
theorem dX2_opens_15 : decode cX2_opens 15 = .ok (.aload_n 0, 1) := by decide +kernel
theorem dX2_opens_16 : decode cX2_opens 16 = .ok (.getfield 57, 3) := by decide +kernel
theorem dX2_opens_19 : decode cX2_opens 19 = .ok (.aload_n 0, 1) := by decide +kernel
theorem dX2_opens_20 : decode cX2_opens 20 = .ok (.getfield 76, 3) := by decide +kernel
theorem dX2_opens_23 : decode cX2_opens 23 = .ok (.iastore, 1) := by decide +kernel
theorem dX2_opens_24 : decode cX2_opens 24 = .ok (.aload_n 0, 1) := by decide +kernel
theorem dX2_opens_25 : decode cX2_opens 25 = .ok (.dup, 1) := by decide +kernel
theorem dX2_opens_26 : decode cX2_opens 26 = .ok (.getfield 57, 3) := by decide +kernel
theorem dX2_opens_29 : decode cX2_opens 29 = .ok (.iconst 1, 1) := by decide +kernel
theorem dX2_opens_30 : decode cX2_opens 30 = .ok (.iadd, 1) := by decide +kernel
theorem dX2_opens_31 : decode cX2_opens 31 = .ok (.putfield 57, 3) := by decide +kernel
theorem dX2_opens_34 : decode cX2_opens 34 = .ok (.aload_n 0, 1) := by decide +kernel
theorem dX2_opens_35 : decode cX2_opens 35 = .ok (.iconst 1, 1) := by decide +kernel
theorem dX2_opens_36 : decode cX2_opens 36 = .ok (.putfield 53, 3) := by decide +kernel
theorem dX2_opens_39 : decode cX2_opens 39 = .ok (.iconst 1, 1) := by decide +kernel
theorem dX2_opens_40 : decode cX2_opens 40 = .ok (.ireturn, 1) := by decide +kernel
theorem dX2_closes_0 : decode cX2_closes 0 = .ok (.aload_n 0, 1) := by decide +kernel
theorem dX2_closes_1 : decode cX2_closes 1 = .ok (.getfield 53, 3) := by decide +kernel
theorem dX2_closes_4 : decode cX2_closes 4 = .ok (.ifCond .ne 10, 3) := by decide +kernel
theorem dX2_closes_7 : decode cX2_closes 7 = .ok (.aload_n 0, 1) := by decide +kernel
theorem dX2_closes_8 : decode cX2_closes 8 = .ok (.getfield 57, 3) := by decide +kernel
theorem dX2_closes_11 : decode cX2_closes 11 = .ok (.ifCond .gt 5, 3) := by decide +kernel
theorem dX2_closes_14 : decode cX2_closes 14 = .ok (.iconst 0, 1) := by decide +kernel
theorem dX2_closes_15 : decode cX2_closes 15 = .ok (.ireturn, 1) := by decide +kernel
theorem dX2_closes_16 : decode cX2_closes 16 = .ok (.aload_n 0, 1) := by decide +kernel
theorem dX2_closes_17 : decode cX2_closes 17 = .ok (.dup, 1) := by decide +kernel
theorem dX2_closes_18 : decode cX2_closes 18 = .ok (.getfield 57, 3) := by decide +kernel
theorem dX2_closes_21 : decode cX2_closes 21 = .ok (.iconst 1, 1) := by decide +kernel
theorem dX2_closes_22 : decode cX2_closes 22 = .ok (.isub, 1) := by decide +kernel
theorem dX2_closes_23 : decode cX2_closes 23 = .ok (.putfield 57, 3) := by decide +kernel
theorem dX2_closes_26 : decode cX2_closes 26 = .ok (.aload_n 0, 1) := by decide +kernel
theorem dX2_closes_27 : decode cX2_closes 27 = .ok (.aload_n 0, 1) := by decide +kernel
theorem dX2_closes_28 : decode cX2_closes 28 = .ok (.getfield 25, 3) := by decide +kernel
theorem dX2_closes_31 : decode cX2_closes 31 = .ok (.aload_n 0, 1) := by decide +kernel
theorem dX2_closes_32 : decode cX2_closes 32 = .ok (.getfield 57, 3) := by decide +kernel
theorem dX2_closes_35 : decode cX2_closes 35 = .ok (.iaload, 1) := by decide +kernel
theorem dX2_closes_36 : decode cX2_closes 36 = .ok (.aload_n 0, 1) := by decide +kernel
theorem dX2_closes_37 : decode cX2_closes 37 = .ok (.getfield 76, 3) := by decide +kernel
theorem dX2_closes_40 : decode cX2_closes 40 = .ok (.invokevirtual 124, 3) := by decide +kernel
theorem dX2_closes_43 : decode cX2_closes 43 = .ok (.iconst 1, 1) := by decide +kernel
theorem dX2_closes_44 : decode cX2_closes 44 = .ok (.ireturn, 1) := by decide +kernel
theorem dX2_endsBalloon_0 : decode cX2_endsBalloon 0 = .ok (.aload_n 0, 1) := by decide +kernel
theorem dX2_endsBalloon_1 : decode cX2_endsBalloon 1 = .ok (.getfield 53, 3) := by decide +kernel
theorem dX2_endsBalloon_4 : decode cX2_endsBalloon 4 = .ok (.ifCond .ne 22, 3) := by decide +kernel
theorem dX2_endsBalloon_7 : decode cX2_endsBalloon 7 = .ok (.aload_n 0, 1) := by decide +kernel
theorem dX2_endsBalloon_8 : decode cX2_endsBalloon 8 = .ok (.getfield 57, 3) := by decide +kernel
theorem dX2_endsBalloon_11 : decode cX2_endsBalloon 11 = .ok (.ifCond .gt 15, 3) := by decide +kernel
theorem dX2_endsBalloon_14 : decode cX2_endsBalloon 14 = .ok (.aload_n 0, 1) := by decide +kernel
theorem dX2_endsBalloon_15 : decode cX2_endsBalloon 15 = .ok (.getfield 12, 3) := by decide +kernel
theorem dX2_endsBalloon_18 : decode cX2_endsBalloon 18 = .ok (.getfield 128, 3) := by decide +kernel
theorem dX2_endsBalloon_21 : decode cX2_endsBalloon 21 = .ok (.bipush 6, 2) := by decide +kernel
theorem dX2_endsBalloon_23 : decode cX2_endsBalloon 23 = .ok (.if_icmp .lt 5, 3) := by decide +kernel
theorem dX2_endsBalloon_26 : decode cX2_endsBalloon 26 = .ok (.iconst 0, 1) := by decide +kernel
theorem dX2_endsBalloon_27 : decode cX2_endsBalloon 27 = .ok (.ireturn, 1) := by decide +kernel
theorem dX2_endsBalloon_28 : decode cX2_endsBalloon 28 = .ok (.aload_n 0, 1) := by decide +kernel
theorem dX2_endsBalloon_29 : decode cX2_endsBalloon 29 = .ok (.iconst 0, 1) := by decide +kernel
theorem dX2_endsBalloon_30 : decode cX2_endsBalloon 30 = .ok (.putfield 50, 3) := by decide +kernel
theorem dX2_endsBalloon_33 : decode cX2_endsBalloon 33 = .ok (.iconst 1, 1) := by decide +kernel
theorem dX2_endsBalloon_34 : decode cX2_endsBalloon 34 = .ok (.ireturn, 1) := by decide +kernel
theorem dX2_newPoint_0 : decode cX2_newPoint 0 = .ok (.aload_n 0, 1) := by decide +kernel
theorem dX2_newPoint_1 : decode cX2_newPoint 1 = .ok (.getfield 12, 3) := by decide +kernel
theorem dX2_newPoint_4 : decode cX2_newPoint 4 = .ok (.getfield 131, 3) := by decide +kernel
theorem dX2_newPoint_7 : decode cX2_newPoint 7 = .ok (.bipush 30, 2) := by decide +kernel
theorem dX2_newPoint_9 : decode cX2_newPoint 9 = .ok (.if_icmp .ge 16, 3) := by decide +kernel
theorem dX2_newPoint_12 : decode cX2_newPoint 12 = .ok (.aload_n 0, 1) := by decide +kernel
theorem dX2_newPoint_13 : decode cX2_newPoint 13 = .ok (.getfield 12, 3) := by decide +kernel
theorem dX2_newPoint_16 : decode cX2_newPoint 16 = .ok (.dup, 1) := by decide +kernel
theorem dX2_newPoint_17 : decode cX2_newPoint 17 = .ok (.getfield 131, 3) := by decide +kernel
theorem dX2_newPoint_20 : decode cX2_newPoint 20 = .ok (.iconst 1, 1) := by decide +kernel
theorem dX2_newPoint_21 : decode cX2_newPoint 21 = .ok (.iadd, 1) := by decide +kernel
theorem dX2_newPoint_22 : decode cX2_newPoint 22 = .ok (.putfield 131, 3) := by decide +kernel
theorem dX2_newPoint_25 : decode cX2_newPoint 25 = .ok (.aload_n 0, 1) := by decide +kernel
theorem dX2_newPoint_26 : decode cX2_newPoint 26 = .ok (.getfield 12, 3) := by decide +kernel
theorem dX2_newPoint_29 : decode cX2_newPoint 29 = .ok (.getfield 131, 3) := by decide +kernel
theorem dX2_newPoint_32 : decode cX2_newPoint 32 = .ok (.iconst 1, 1) := by decide +kernel
theorem dX2_newPoint_33 : decode cX2_newPoint 33 = .ok (.isub, 1) := by decide +kernel
theorem dX2_newPoint_34 : decode cX2_newPoint 34 = .ok (.ireturn, 1) := by decide +kernel
theorem dX2_join_0 : decode cX2_join 0 = .ok (.iload_n 1, 1) := by decide +kernel
theorem dX2_join_1 : decode cX2_join 1 = .ok (.iload_n 2, 1) := by decide +kernel
theorem dX2_join_2 : decode cX2_join 2 = .ok (.if_icmp .ne 4, 3) := by decide +kernel
theorem dX2_join_5 : decode cX2_join 5 = .ok (.return_, 1) := by decide +kernel
theorem dX2_join_6 : decode cX2_join 6 = .ok (.iload_n 1, 1) := by decide +kernel
theorem dX2_join_7 : decode cX2_join 7 = .ok (.iload_n 2, 1) := by decide +kernel
theorem dX2_join_8 : decode cX2_join 8 = .ok (.invokestatic 134, 3) := by decide +kernel
theorem dX2_join_11 : decode cX2_join 11 = .ok (.istore_n 3, 1) := by decide +kernel
theorem dX2_join_12 : decode cX2_join 12 = .ok (.iload_n 1, 1) := by decide +kernel
theorem dX2_join_13 : decode cX2_join 13 = .ok (.iload_n 2, 1) := by decide +kernel
theorem dX2_join_14 : decode cX2_join 14 = .ok (.invokestatic 140, 3) := by decide +kernel
theorem dX2_join_17 : decode cX2_join 17 = .ok (.istore 4, 2) := by decide +kernel
theorem dX2_join_19 : decode cX2_join 19 = .ok (.aload_n 0, 1) := by decide +kernel
theorem dX2_join_20 : decode cX2_join 20 = .ok (.getfield 12, 3) := by decide +kernel
theorem dX2_join_23 : decode cX2_join 23 = .ok (.iload 4, 2) := by decide +kernel
theorem dX2_join_25 : decode cX2_join 25 = .ok (.iload_n 3, 1) := by decide +kernel
theorem dX2_join_26 : decode cX2_join 26 = .ok (.invokevirtual 143, 3) := by decide +kernel
theorem dX2_join_29 : decode cX2_join 29 = .ok (.aload_n 0, 1) := by decide +kernel
theorem dX2_join_30 : decode cX2_join 30 = .ok (.getfield 18, 3) := by decide +kernel
theorem dX2_join_33 : decode cX2_join 33 = .ok (.iload 4, 2) := by decide +kernel
theorem dX2_join_35 : decode cX2_join 35 = .ok (.iconst (-1), 1) := by decide +kernel
theorem dX2_join_36 : decode cX2_join 36 = .ok (.iastore, 1) := by decide +kernel
theorem dX2_join_37 : decode cX2_join 37 = .ok (.aload_n 0, 1) := by decide +kernel
theorem dX2_join_38 : decode cX2_join 38 = .ok (.getfield 22, 3) := by decide +kernel
theorem dX2_join_41 : decode cX2_join 41 = .ok (.bipush 8, 2) := by decide +kernel
theorem dX2_join_43 : decode cX2_join 43 = .ok (.iload 4, 2) := by decide +kernel
theorem dX2_join_45 : decode cX2_join 45 = .ok (.iload_n 3, 1) := by decide +kernel
theorem dX2_join_46 : decode cX2_join 46 = .ok (.invokestatic 146, 3) := by decide +kernel
theorem dX2_join_49 : decode cX2_join 49 = .ok (.aload_n 0, 1) := by decide +kernel
theorem dX2_join_50 : decode cX2_join 50 = .ok (.getfield 25, 3) := by decide +kernel
theorem dX2_join_53 : decode cX2_join 53 = .ok (.aload_n 0, 1) := by decide +kernel
theorem dX2_join_54 : decode cX2_join 54 = .ok (.getfield 57, 3) := by decide +kernel
theorem dX2_join_57 : decode cX2_join 57 = .ok (.iload 4, 2) := by decide +kernel
theorem dX2_join_59 : decode cX2_join 59 = .ok (.iload_n 3, 1) := by decide +kernel
theorem dX2_join_60 : decode cX2_join 60 = .ok (.invokestatic 146, 3) := by decide +kernel
theorem dX2_join_63 : decode cX2_join 63 = .ok (.aload_n 0, 1) := by decide +kernel
theorem dX2_join_64 : decode cX2_join 64 = .ok (.aload_n 0, 1) := by decide +kernel
theorem dX2_join_65 : decode cX2_join 65 = .ok (.getfield 76, 3) := by decide +kernel
theorem dX2_join_68 : decode cX2_join 68 = .ok (.iload 4, 2) := by decide +kernel
theorem dX2_join_70 : decode cX2_join 70 = .ok (.if_icmp .ne 7, 3) := by decide +kernel
theorem dX2_join_73 : decode cX2_join 73 = .ok (.iload_n 3, 1) := by decide +kernel
theorem dX2_join_74 : decode cX2_join 74 = .ok (.goto 7, 3) := by decide +kernel
theorem dX2_join_77 : decode cX2_join 77 = .ok (.aload_n 0, 1) := by decide +kernel
theorem dX2_join_78 : decode cX2_join 78 = .ok (.getfield 76, 3) := by decide +kernel
theorem dX2_join_81 : decode cX2_join 81 = .ok (.putfield 76, 3) := by decide +kernel
theorem dX2_join_84 : decode cX2_join 84 = .ok (.return_, 1) := by decide +kernel
theorem dX2_renameIn_0 : decode cX2_renameIn 0 = .ok (.iconst 0, 1) := by decide +kernel
theorem dX2_renameIn_1 : decode cX2_renameIn 1 = .ok (.istore 4, 2) := by decide +kernel
theorem dX2_renameIn_3 : decode cX2_renameIn 3 = .ok (.iload 4, 2) := by decide +kernel
theorem dX2_renameIn_5 : decode cX2_renameIn 5 = .ok (.iload_n 1, 1) := by decide +kernel
theorem dX2_renameIn_6 : decode cX2_renameIn 6 = .ok (.if_icmp .ge 29, 3) := by decide +kernel
theorem dX2_renameIn_9 : decode cX2_renameIn 9 = .ok (.aload_n 0, 1) := by decide +kernel
theorem dX2_renameIn_10 : decode cX2_renameIn 10 = .ok (.iload 4, 2) := by decide +kernel
theorem dX2_renameIn_12 : decode cX2_renameIn 12 = .ok (.aload_n 0, 1) := by decide +kernel
theorem dX2_renameIn_13 : decode cX2_renameIn 13 = .ok (.iload 4, 2) := by decide +kernel
theorem dX2_renameIn_15 : decode cX2_renameIn 15 = .ok (.iaload, 1) := by decide +kernel
theorem dX2_renameIn_16 : decode cX2_renameIn 16 = .ok (.iload_n 2, 1) := by decide +kernel
theorem dX2_renameIn_17 : decode cX2_renameIn 17 = .ok (.if_icmp .ne 7, 3) := by decide +kernel
theorem dX2_renameIn_20 : decode cX2_renameIn 20 = .ok (.iload_n 3, 1) := by decide +kernel
theorem dX2_renameIn_21 : decode cX2_renameIn 21 = .ok (.goto 7, 3) := by decide +kernel
theorem dX2_renameIn_24 : decode cX2_renameIn 24 = .ok (.aload_n 0, 1) := by decide +kernel
theorem dX2_renameIn_25 : decode cX2_renameIn 25 = .ok (.iload 4, 2) := by decide +kernel
theorem dX2_renameIn_27 : decode cX2_renameIn 27 = .ok (.iaload, 1) := by decide +kernel
theorem dX2_renameIn_28 : decode cX2_renameIn 28 = .ok (.iastore, 1) := by decide +kernel
theorem dX2_renameIn_29 : decode cX2_renameIn 29 = .ok (.iinc 4 1, 3) := by decide +kernel
theorem dX2_renameIn_32 : decode cX2_renameIn 32 = .ok (.goto (-29), 3) := by decide +kernel
theorem dX2_renameIn_35 : decode cX2_renameIn 35 = .ok (.return_, 1) := by decide +kernel
theorem dX3_init_0 : decode cX3_init 0 = .ok (.aload_n 0, 1) := by decide +kernel
theorem dX3_init_1 : decode cX3_init 1 = .ok (.invokespecial 5, 3) := by decide +kernel
theorem dX3_init_4 : decode cX3_init 4 = .ok (.aload_n 0, 1) := by decide +kernel
theorem dX3_init_5 : decode cX3_init 5 = .ok (.sipush 1024, 3) := by decide +kernel
theorem dX3_init_8 : decode cX3_init 8 = .ok (.newarray .int, 2) := by decide +kernel
theorem dX3_init_10 : decode cX3_init 10 = .ok (.putfield 11, 3) := by decide +kernel
theorem dX3_init_13 : decode cX3_init 13 = .ok (.aload_n 0, 1) := by decide +kernel
theorem dX3_init_14 : decode cX3_init 14 = .ok (.sipush 1024, 3) := by decide +kernel
theorem dX3_init_17 : decode cX3_init 17 = .ok (.newarray .int, 2) := by decide +kernel
theorem dX3_init_19 : decode cX3_init 19 = .ok (.putfield 15, 3) := by decide +kernel
theorem dX3_init_22 : decode cX3_init 22 = .ok (.aload_n 0, 1) := by decide +kernel
theorem dX3_init_23 : decode cX3_init 23 = .ok (.sipush 1024, 3) := by decide +kernel
theorem dX3_init_26 : decode cX3_init 26 = .ok (.newarray .int, 2) := by decide +kernel
theorem dX3_init_28 : decode cX3_init 28 = .ok (.putfield 18, 3) := by decide +kernel
theorem dX3_init_31 : decode cX3_init 31 = .ok (.aload_n 0, 1) := by decide +kernel
theorem dX3_init_32 : decode cX3_init 32 = .ok (.sipush 1024, 3) := by decide +kernel
theorem dX3_init_35 : decode cX3_init 35 = .ok (.newarray .int, 2) := by decide +kernel
theorem dX3_init_37 : decode cX3_init 37 = .ok (.putfield 21, 3) := by decide +kernel
theorem dX3_init_40 : decode cX3_init 40 = .ok (.aload_n 0, 1) := by decide +kernel
theorem dX3_init_41 : decode cX3_init 41 = .ok (.sipush 1024, 3) := by decide +kernel
theorem dX3_init_44 : decode cX3_init 44 = .ok (.newarray .boolean, 2) := by decide +kernel
theorem dX3_init_46 : decode cX3_init 46 = .ok (.putfield 24, 3) := by decide +kernel
theorem dX3_init_49 : decode cX3_init 49 = .ok (.aload_n 0, 1) := by decide +kernel
theorem dX3_init_50 : decode cX3_init 50 = .ok (.sipush 1024, 3) := by decide +kernel
theorem dX3_init_53 : decode cX3_init 53 = .ok (.newarray .boolean, 2) := by decide +kernel
theorem dX3_init_55 : decode cX3_init 55 = .ok (.putfield 28, 3) := by decide +kernel
theorem dX3_init_58 : decode cX3_init 58 = .ok (.aload_n 0, 1) := by decide +kernel
theorem dX3_init_59 : decode cX3_init 59 = .ok (.bipush 72, 2) := by decide +kernel
theorem dX3_init_61 : decode cX3_init 61 = .ok (.newarray .int, 2) := by decide +kernel
theorem dX3_init_63 : decode cX3_init 63 = .ok (.putfield 31, 3) := by decide +kernel
theorem dX3_init_66 : decode cX3_init 66 = .ok (.aload_n 0, 1) := by decide +kernel
theorem dX3_init_67 : decode cX3_init 67 = .ok (.sipush 720, 3) := by decide +kernel
theorem dX3_init_70 : decode cX3_init 70 = .ok (.newarray .int, 2) := by decide +kernel
theorem dX3_init_72 : decode cX3_init 72 = .ok (.putfield 34, 3) := by decide +kernel
theorem dX3_init_75 : decode cX3_init 75 = .ok (.aload_n 0, 1) := by decide +kernel
theorem dX3_init_76 : decode cX3_init 76 = .ok (.getfield 31, 3) := by decide +kernel
theorem dX3_init_79 : decode cX3_init 79 = .ok (.bipush (-2), 2) := by decide +kernel
theorem dX3_init_81 : decode cX3_init 81 = .ok (.invokestatic 37, 3) := by decide +kernel
theorem dX3_init_84 : decode cX3_init 84 = .ok (.return_, 1) := by decide +kernel
theorem dX3_fewestFor_0 : decode cX3_fewestFor 0 = .ok (.iload_n 2, 1) := by decide +kernel
theorem dX3_fewestFor_1 : decode cX3_fewestFor 1 = .ok (.bipush 6, 2) := by decide +kernel
theorem dX3_fewestFor_3 : decode cX3_fewestFor 3 = .ok (.imul, 1) := by decide +kernel
theorem dX3_fewestFor_4 : decode cX3_fewestFor 4 = .ok (.iload_n 3, 1) := by decide +kernel
theorem dX3_fewestFor_5 : decode cX3_fewestFor 5 = .ok (.iadd, 1) := by decide +kernel
theorem dX3_fewestFor_6 : decode cX3_fewestFor 6 = .ok (.istore 5, 2) := by decide +kernel
theorem dX3_fewestFor_8 : decode cX3_fewestFor 8 = .ok (.aload_n 0, 1) := by decide +kernel
theorem dX3_fewestFor_9 : decode cX3_fewestFor 9 = .ok (.getfield 31, 3) := by decide +kernel
theorem dX3_fewestFor_12 : decode cX3_fewestFor 12 = .ok (.iload 5, 2) := by decide +kernel
theorem dX3_fewestFor_14 : decode cX3_fewestFor 14 = .ok (.iaload, 1) := by decide +kernel
theorem dX3_fewestFor_15 : decode cX3_fewestFor 15 = .ok (.bipush (-2), 2) := by decide +kernel
theorem dX3_fewestFor_17 : decode cX3_fewestFor 17 = .ok (.if_icmp .ne 65, 3) := by decide +kernel
theorem dX3_fewestFor_20 : decode cX3_fewestFor 20 = .ok (.aload_n 0, 1) := by decide +kernel
theorem dX3_fewestFor_21 : decode cX3_fewestFor 21 = .ok (.aload_n 1, 1) := by decide +kernel
theorem dX3_fewestFor_22 : decode cX3_fewestFor 22 = .ok (.aload 4, 2) := by decide +kernel
theorem dX3_fewestFor_24 : decode cX3_fewestFor 24 = .ok (.getfield 43, 3) := by decide +kernel
theorem dX3_fewestFor_27 : decode cX3_fewestFor 27 = .ok (.iload_n 3, 1) := by decide +kernel
theorem dX3_fewestFor_28 : decode cX3_fewestFor 28 = .ok (.iaload, 1) := by decide +kernel
theorem dX3_fewestFor_29 : decode cX3_fewestFor 29 = .ok (.aload 4, 2) := by decide +kernel
theorem dX3_fewestFor_31 : decode cX3_fewestFor 31 = .ok (.getfield 48, 3) := by decide +kernel
theorem dX3_fewestFor_34 : decode cX3_fewestFor 34 = .ok (.iload_n 3, 1) := by decide +kernel
theorem dX3_fewestFor_35 : decode cX3_fewestFor 35 = .ok (.iaload, 1) := by decide +kernel
theorem dX3_fewestFor_36 : decode cX3_fewestFor 36 = .ok (.invokevirtual 51, 3) := by decide +kernel
theorem dX3_fewestFor_39 : decode cX3_fewestFor 39 = .ok (.aload_n 0, 1) := by decide +kernel
theorem dX3_fewestFor_40 : decode cX3_fewestFor 40 = .ok (.aload_n 1, 1) := by decide +kernel
theorem dX3_fewestFor_41 : decode cX3_fewestFor 41 = .ok (.invokevirtual 55, 3) := by decide +kernel
theorem dX3_fewestFor_44 : decode cX3_fewestFor 44 = .ok (.invokevirtual 61, 3) := by decide +kernel
theorem dX3_fewestFor_47 : decode cX3_fewestFor 47 = .ok (.aload_n 0, 1) := by decide +kernel
theorem dX3_fewestFor_48 : decode cX3_fewestFor 48 = .ok (.getfield 31, 3) := by decide +kernel
theorem dX3_fewestFor_51 : decode cX3_fewestFor 51 = .ok (.iload 5, 2) := by decide +kernel
theorem dX3_fewestFor_53 : decode cX3_fewestFor 53 = .ok (.aload_n 0, 1) := by decide +kernel
theorem dX3_fewestFor_54 : decode cX3_fewestFor 54 = .ok (.getfield 21, 3) := by decide +kernel
theorem dX3_fewestFor_57 : decode cX3_fewestFor 57 = .ok (.aload_n 1, 1) := by decide +kernel
theorem dX3_fewestFor_58 : decode cX3_fewestFor 58 = .ok (.invokevirtual 55, 3) := by decide +kernel
theorem dX3_fewestFor_61 : decode cX3_fewestFor 61 = .ok (.iaload, 1) := by decide +kernel
theorem dX3_fewestFor_62 : decode cX3_fewestFor 62 = .ok (.bipush 99, 2) := by decide +kernel
theorem dX3_fewestFor_64 : decode cX3_fewestFor 64 = .ok (.if_icmp .lt 7, 3) := by decide +kernel
theorem dX3_fewestFor_67 : decode cX3_fewestFor 67 = .ok (.iconst (-1), 1) := by decide +kernel
theorem dX3_fewestFor_68 : decode cX3_fewestFor 68 = .ok (.goto 13, 3) := by decide +kernel
theorem dX3_fewestFor_71 : decode cX3_fewestFor 71 = .ok (.aload_n 0, 1) := by decide +kernel
theorem dX3_fewestFor_72 : decode cX3_fewestFor 72 = .ok (.aload_n 1, 1) := by decide +kernel
theorem dX3_fewestFor_73 : decode cX3_fewestFor 73 = .ok (.invokevirtual 55, 3) := by decide +kernel
theorem dX3_fewestFor_76 : decode cX3_fewestFor 76 = .ok (.iload 5, 2) := by decide +kernel
theorem dX3_fewestFor_78 : decode cX3_fewestFor 78 = .ok (.invokevirtual 65, 3) := by decide +kernel
theorem dX3_fewestFor_81 : decode cX3_fewestFor 81 = .ok (.iastore, 1) := by decide +kernel
theorem dX3_fewestFor_82 : decode cX3_fewestFor 82 = .ok (.aload_n 0, 1) := by decide +kernel
theorem dX3_fewestFor_83 : decode cX3_fewestFor 83 = .ok (.getfield 31, 3) := by decide +kernel
theorem dX3_fewestFor_86 : decode cX3_fewestFor 86 = .ok (.iload 5, 2) := by decide +kernel
theorem dX3_fewestFor_88 : decode cX3_fewestFor 88 = .ok (.iaload, 1) := by decide +kernel
theorem dX3_fewestFor_89 : decode cX3_fewestFor 89 = .ok (.ireturn, 1) := by decide +kernel
theorem dX3_setAt_0 : decode cX3_setAt 0 = .ok (.iload_n 3, 1) := by decide +kernel
theorem dX3_setAt_1 : decode cX3_setAt 1 = .ok (.ifCond .lt 9, 3) := by decide +kernel
theorem dX3_setAt_4 : decode cX3_setAt 4 = .ok (.iload_n 3, 1) := by decide +kernel
theorem dX3_setAt_5 : decode cX3_setAt 5 = .ok (.bipush 10, 2) := by decide +kernel
theorem dX3_setAt_7 : decode cX3_setAt 7 = .ok (.if_icmp .lt 7, 3) := by decide +kernel
theorem dX3_setAt_10 : decode cX3_setAt 10 = .ok (.iconst (-1), 1) := by decide +kernel
theorem dX3_setAt_11 : decode cX3_setAt 11 = .ok (.goto 19, 3) := by decide +kernel
theorem dX3_setAt_14 : decode cX3_setAt 14 = .ok (.aload_n 0, 1) := by decide +kernel
theorem dX3_setAt_15 : decode cX3_setAt 15 = .ok (.getfield 34, 3) := by decide +kernel
theorem dX3_setAt_18 : decode cX3_setAt 18 = .ok (.iload_n 1, 1) := by decide +kernel
theorem dX3_setAt_19 : decode cX3_setAt 19 = .ok (.bipush 6, 2) := by decide +kernel
theorem dX3_setAt_21 : decode cX3_setAt 21 = .ok (.imul, 1) := by decide +kernel
theorem dX3_setAt_22 : decode cX3_setAt 22 = .ok (.iload_n 2, 1) := by decide +kernel
theorem dX3_setAt_23 : decode cX3_setAt 23 = .ok (.iadd, 1) := by decide +kernel
theorem dX3_setAt_24 : decode cX3_setAt 24 = .ok (.bipush 10, 2) := by decide +kernel
theorem dX3_setAt_26 : decode cX3_setAt 26 = .ok (.imul, 1) := by decide +kernel
theorem dX3_setAt_27 : decode cX3_setAt 27 = .ok (.iload_n 3, 1) := by decide +kernel
theorem dX3_setAt_28 : decode cX3_setAt 28 = .ok (.iadd, 1) := by decide +kernel
theorem dX3_setAt_29 : decode cX3_setAt 29 = .ok (.iaload, 1) := by decide +kernel
theorem dX3_setAt_30 : decode cX3_setAt 30 = .ok (.ireturn, 1) := by decide +kernel
theorem dX3_tellChoices_0 : decode cX3_tellChoices 0 = .ok (.aload_n 0, 1) := by decide +kernel
theorem dX3_tellChoices_1 : decode cX3_tellChoices 1 = .ok (.getfield 11, 3) := by decide +kernel
theorem dX3_tellChoices_4 : decode cX3_tellChoices 4 = .ok (.iconst 0, 1) := by decide +kernel
theorem dX3_tellChoices_5 : decode cX3_tellChoices 5 = .ok (.iload_n 3, 1) := by decide +kernel
theorem dX3_tellChoices_6 : decode cX3_tellChoices 6 = .ok (.ineg, 1) := by decide +kernel
theorem dX3_tellChoices_7 : decode cX3_tellChoices 7 = .ok (.iastore, 1) := by decide +kernel
theorem dX3_tellChoices_8 : decode cX3_tellChoices 8 = .ok (.aload_n 0, 1) := by decide +kernel
theorem dX3_tellChoices_9 : decode cX3_tellChoices 9 = .ok (.getfield 15, 3) := by decide +kernel
theorem dX3_tellChoices_12 : decode cX3_tellChoices 12 = .ok (.iconst 0, 1) := by decide +kernel
theorem dX3_tellChoices_13 : decode cX3_tellChoices 13 = .ok (.iconst 0, 1) := by decide +kernel
theorem dX3_tellChoices_14 : decode cX3_tellChoices 14 = .ok (.iastore, 1) := by decide +kernel
theorem dX3_tellChoices_15 : decode cX3_tellChoices 15 = .ok (.aload_n 0, 1) := by decide +kernel
theorem dX3_tellChoices_16 : decode cX3_tellChoices 16 = .ok (.getfield 18, 3) := by decide +kernel
theorem dX3_tellChoices_19 : decode cX3_tellChoices 19 = .ok (.iconst 0, 1) := by decide +kernel
theorem dX3_tellChoices_20 : decode cX3_tellChoices 20 = .ok (.iconst 0, 1) := by decide +kernel
theorem dX3_tellChoices_21 : decode cX3_tellChoices 21 = .ok (.iastore, 1) := by decide +kernel
theorem dX3_tellChoices_22 : decode cX3_tellChoices 22 = .ok (.iconst 1, 1) := by decide +kernel
theorem dX3_tellChoices_23 : decode cX3_tellChoices 23 = .ok (.istore 4, 2) := by decide +kernel
theorem dX3_tellChoices_25 : decode cX3_tellChoices 25 = .ok (.iload 4, 2) := by decide +kernel
theorem dX3_tellChoices_27 : decode cX3_tellChoices 27 = .ok (.aload_n 1, 1) := by decide +kernel
theorem dX3_tellChoices_28 : decode cX3_tellChoices 28 = .ok (.invokevirtual 55, 3) := by decide +kernel
theorem dX3_tellChoices_31 : decode cX3_tellChoices 31 = .ok (.if_icmp .gt 181, 3) := by decide +kernel
theorem dX3_tellChoices_34 : decode cX3_tellChoices 34 = .ok (.iload 4, 2) := by decide +kernel
theorem dX3_tellChoices_36 : decode cX3_tellChoices 36 = .ok (.invokestatic 69, 3) := by decide +kernel
theorem dX3_tellChoices_39 : decode cX3_tellChoices 39 = .ok (.istore 5, 2) := by decide +kernel
theorem dX3_tellChoices_41 : decode cX3_tellChoices 41 = .ok (.iload 4, 2) := by decide +kernel
theorem dX3_tellChoices_43 : decode cX3_tellChoices 43 = .ok (.iload 4, 2) := by decide +kernel
theorem dX3_tellChoices_45 : decode cX3_tellChoices 45 = .ok (.iconst 1, 1) := by decide +kernel
theorem dX3_tellChoices_46 : decode cX3_tellChoices 46 = .ok (.isub, 1) := by decide +kernel
theorem dX3_tellChoices_47 : decode cX3_tellChoices 47 = .ok (.iand, 1) := by decide +kernel
theorem dX3_tellChoices_48 : decode cX3_tellChoices 48 = .ok (.istore 6, 2) := by decide +kernel
theorem dX3_tellChoices_50 : decode cX3_tellChoices 50 = .ok (.aload_n 0, 1) := by decide +kernel
theorem dX3_tellChoices_51 : decode cX3_tellChoices 51 = .ok (.getfield 11, 3) := by decide +kernel
theorem dX3_tellChoices_54 : decode cX3_tellChoices 54 = .ok (.iload 4, 2) := by decide +kernel
theorem dX3_tellChoices_56 : decode cX3_tellChoices 56 = .ok (.aload_n 0, 1) := by decide +kernel
theorem dX3_tellChoices_57 : decode cX3_tellChoices 57 = .ok (.getfield 11, 3) := by decide +kernel
theorem dX3_tellChoices_60 : decode cX3_tellChoices 60 = .ok (.iload 6, 2) := by decide +kernel
theorem dX3_tellChoices_62 : decode cX3_tellChoices 62 = .ok (.iaload, 1) := by decide +kernel
theorem dX3_tellChoices_63 : decode cX3_tellChoices 63 = .ok (.aload_n 1, 1) := by decide +kernel
theorem dX3_tellChoices_64 : decode cX3_tellChoices 64 = .ok (.getfield 75, 3) := by decide +kernel
theorem dX3_tellChoices_67 : decode cX3_tellChoices 67 = .ok (.iload 5, 2) := by decide +kernel
theorem dX3_tellChoices_69 : decode cX3_tellChoices 69 = .ok (.iaload, 1) := by decide +kernel
theorem dX3_tellChoices_70 : decode cX3_tellChoices 70 = .ok (.iadd, 1) := by decide +kernel
theorem dX3_tellChoices_71 : decode cX3_tellChoices 71 = .ok (.iload_n 3, 1) := by decide +kernel
theorem dX3_tellChoices_72 : decode cX3_tellChoices 72 = .ok (.iadd, 1) := by decide +kernel
theorem dX3_tellChoices_73 : decode cX3_tellChoices 73 = .ok (.iastore, 1) := by decide +kernel
theorem dX3_tellChoices_74 : decode cX3_tellChoices 74 = .ok (.aload_n 0, 1) := by decide +kernel
theorem dX3_tellChoices_75 : decode cX3_tellChoices 75 = .ok (.getfield 15, 3) := by decide +kernel
theorem dX3_tellChoices_78 : decode cX3_tellChoices 78 = .ok (.iload 4, 2) := by decide +kernel
theorem dX3_tellChoices_80 : decode cX3_tellChoices 80 = .ok (.aload_n 0, 1) := by decide +kernel
theorem dX3_tellChoices_81 : decode cX3_tellChoices 81 = .ok (.getfield 15, 3) := by decide +kernel
theorem dX3_tellChoices_84 : decode cX3_tellChoices 84 = .ok (.iload 6, 2) := by decide +kernel
theorem dX3_tellChoices_86 : decode cX3_tellChoices 86 = .ok (.iaload, 1) := by decide +kernel
theorem dX3_tellChoices_87 : decode cX3_tellChoices 87 = .ok (.iconst 1, 1) := by decide +kernel
theorem dX3_tellChoices_88 : decode cX3_tellChoices 88 = .ok (.aload_n 1, 1) := by decide +kernel
theorem dX3_tellChoices_89 : decode cX3_tellChoices 89 = .ok (.getfield 76, 3) := by decide +kernel
theorem dX3_tellChoices_92 : decode cX3_tellChoices 92 = .ok (.iload 5, 2) := by decide +kernel
theorem dX3_tellChoices_94 : decode cX3_tellChoices 94 = .ok (.iaload, 1) := by decide +kernel
theorem dX3_tellChoices_95 : decode cX3_tellChoices 95 = .ok (.ishl, 1) := by decide +kernel
theorem dX3_tellChoices_96 : decode cX3_tellChoices 96 = .ok (.ior, 1) := by decide +kernel
theorem dX3_tellChoices_97 : decode cX3_tellChoices 97 = .ok (.iconst 1, 1) := by decide +kernel
theorem dX3_tellChoices_98 : decode cX3_tellChoices 98 = .ok (.aload_n 1, 1) := by decide +kernel
theorem dX3_tellChoices_99 : decode cX3_tellChoices 99 = .ok (.getfield 79, 3) := by decide +kernel
theorem dX3_tellChoices_102 : decode cX3_tellChoices 102 = .ok (.iload 5, 2) := by decide +kernel
theorem dX3_tellChoices_104 : decode cX3_tellChoices 104 = .ok (.iaload, 1) := by decide +kernel
theorem dX3_tellChoices_105 : decode cX3_tellChoices 105 = .ok (.ishl, 1) := by decide +kernel
theorem dX3_tellChoices_106 : decode cX3_tellChoices 106 = .ok (.ior, 1) := by decide +kernel
theorem dX3_tellChoices_107 : decode cX3_tellChoices 107 = .ok (.iastore, 1) := by decide +kernel
theorem dX3_tellChoices_108 : decode cX3_tellChoices 108 = .ok (.aload_n 0, 1) := by decide +kernel
theorem dX3_tellChoices_109 : decode cX3_tellChoices 109 = .ok (.getfield 18, 3) := by decide +kernel
theorem dX3_tellChoices_112 : decode cX3_tellChoices 112 = .ok (.iload 4, 2) := by decide +kernel
theorem dX3_tellChoices_114 : decode cX3_tellChoices 114 = .ok (.aload_n 0, 1) := by decide +kernel
theorem dX3_tellChoices_115 : decode cX3_tellChoices 115 = .ok (.getfield 18, 3) := by decide +kernel
theorem dX3_tellChoices_118 : decode cX3_tellChoices 118 = .ok (.iload 6, 2) := by decide +kernel
theorem dX3_tellChoices_120 : decode cX3_tellChoices 120 = .ok (.iaload, 1) := by decide +kernel
theorem dX3_tellChoices_121 : decode cX3_tellChoices 121 = .ok (.aload_n 1, 1) := by decide +kernel
theorem dX3_tellChoices_122 : decode cX3_tellChoices 122 = .ok (.iload 5, 2) := by decide +kernel
theorem dX3_tellChoices_124 : decode cX3_tellChoices 124 = .ok (.invokevirtual 82, 3) := by decide +kernel
theorem dX3_tellChoices_127 : decode cX3_tellChoices 127 = .ok (.ixor, 1) := by decide +kernel
theorem dX3_tellChoices_128 : decode cX3_tellChoices 128 = .ok (.iastore, 1) := by decide +kernel
theorem dX3_tellChoices_129 : decode cX3_tellChoices 129 = .ok (.aload_n 0, 1) := by decide +kernel
theorem dX3_tellChoices_130 : decode cX3_tellChoices 130 = .ok (.getfield 24, 3) := by decide +kernel
theorem dX3_tellChoices_133 : decode cX3_tellChoices 133 = .ok (.iload 4, 2) := by decide +kernel
theorem dX3_tellChoices_135 : decode cX3_tellChoices 135 = .ok (.iload 6, 2) := by decide +kernel
theorem dX3_tellChoices_137 : decode cX3_tellChoices 137 = .ok (.ifCond .eq 16, 3) := by decide +kernel
theorem dX3_tellChoices_140 : decode cX3_tellChoices 140 = .ok (.aload_n 0, 1) := by decide +kernel
theorem dX3_tellChoices_141 : decode cX3_tellChoices 141 = .ok (.aload_n 1, 1) := by decide +kernel
theorem dX3_tellChoices_142 : decode cX3_tellChoices 142 = .ok (.getfield 85, 3) := by decide +kernel
theorem dX3_tellChoices_145 : decode cX3_tellChoices 145 = .ok (.iload 4, 2) := by decide +kernel
theorem dX3_tellChoices_147 : decode cX3_tellChoices 147 = .ok (.invokevirtual 89, 3) := by decide +kernel
theorem dX3_tellChoices_150 : decode cX3_tellChoices 150 = .ok (.ifCond .eq 7, 3) := by decide +kernel
theorem dX3_tellChoices_153 : decode cX3_tellChoices 153 = .ok (.iconst 1, 1) := by decide +kernel
theorem dX3_tellChoices_154 : decode cX3_tellChoices 154 = .ok (.goto 4, 3) := by decide +kernel
theorem dX3_tellChoices_157 : decode cX3_tellChoices 157 = .ok (.iconst 0, 1) := by decide +kernel
theorem dX3_tellChoices_158 : decode cX3_tellChoices 158 = .ok (.bastore, 1) := by decide +kernel
theorem dX3_tellChoices_159 : decode cX3_tellChoices 159 = .ok (.aload_n 0, 1) := by decide +kernel
theorem dX3_tellChoices_160 : decode cX3_tellChoices 160 = .ok (.getfield 28, 3) := by decide +kernel
theorem dX3_tellChoices_163 : decode cX3_tellChoices 163 = .ok (.iload 4, 2) := by decide +kernel
theorem dX3_tellChoices_165 : decode cX3_tellChoices 165 = .ok (.aload_n 0, 1) := by decide +kernel
theorem dX3_tellChoices_166 : decode cX3_tellChoices 166 = .ok (.getfield 24, 3) := by decide +kernel
theorem dX3_tellChoices_169 : decode cX3_tellChoices 169 = .ok (.iload 4, 2) := by decide +kernel
theorem dX3_tellChoices_171 : decode cX3_tellChoices 171 = .ok (.baload, 1) := by decide +kernel
theorem dX3_tellChoices_172 : decode cX3_tellChoices 172 = .ok (.ifCond .eq 32, 3) := by decide +kernel
theorem dX3_tellChoices_175 : decode cX3_tellChoices 175 = .ok (.aload_n 0, 1) := by decide +kernel
theorem dX3_tellChoices_176 : decode cX3_tellChoices 176 = .ok (.getfield 11, 3) := by decide +kernel
theorem dX3_tellChoices_179 : decode cX3_tellChoices 179 = .ok (.iload 4, 2) := by decide +kernel
theorem dX3_tellChoices_181 : decode cX3_tellChoices 181 = .ok (.iaload, 1) := by decide +kernel
theorem dX3_tellChoices_182 : decode cX3_tellChoices 182 = .ok (.iload_n 2, 1) := by decide +kernel
theorem dX3_tellChoices_183 : decode cX3_tellChoices 183 = .ok (.if_icmp .gt 21, 3) := by decide +kernel
theorem dX3_tellChoices_186 : decode cX3_tellChoices 186 = .ok (.aload_n 0, 1) := by decide +kernel
theorem dX3_tellChoices_187 : decode cX3_tellChoices 187 = .ok (.getfield 18, 3) := by decide +kernel
theorem dX3_tellChoices_190 : decode cX3_tellChoices 190 = .ok (.iload 4, 2) := by decide +kernel
theorem dX3_tellChoices_192 : decode cX3_tellChoices 192 = .ok (.iaload, 1) := by decide +kernel
theorem dX3_tellChoices_193 : decode cX3_tellChoices 193 = .ok (.invokestatic 93, 3) := by decide +kernel
theorem dX3_tellChoices_196 : decode cX3_tellChoices 196 = .ok (.iconst 2, 1) := by decide +kernel
theorem dX3_tellChoices_197 : decode cX3_tellChoices 197 = .ok (.if_icmp .gt 7, 3) := by decide +kernel
theorem dX3_tellChoices_200 : decode cX3_tellChoices 200 = .ok (.iconst 1, 1) := by decide +kernel
theorem dX3_tellChoices_201 : decode cX3_tellChoices 201 = .ok (.goto 4, 3) := by decide +kernel
theorem dX3_tellChoices_204 : decode cX3_tellChoices 204 = .ok (.iconst 0, 1) := by decide +kernel
theorem dX3_tellChoices_205 : decode cX3_tellChoices 205 = .ok (.bastore, 1) := by decide +kernel
theorem dX3_tellChoices_206 : decode cX3_tellChoices 206 = .ok (.iinc 4 1, 3) := by decide +kernel
theorem dX3_tellChoices_209 : decode cX3_tellChoices 209 = .ok (.goto (-184), 3) := by decide +kernel
theorem dX3_tellChoices_212 : decode cX3_tellChoices 212 = .ok (.return_, 1) := by decide +kernel
theorem dX3_hangsTogether_0 : decode cX3_hangsTogether 0 = .ok (.iconst 0, 1) := by decide +kernel
theorem dX3_hangsTogether_1 : decode cX3_hangsTogether 1 = .ok (.istore_n 3, 1) := by decide +kernel
theorem dX3_hangsTogether_2 : decode cX3_hangsTogether 2 = .ok (.iload_n 3, 1) := by decide +kernel
theorem dX3_hangsTogether_3 : decode cX3_hangsTogether 3 = .ok (.iload_n 1, 1) := by decide +kernel
theorem dX3_hangsTogether_4 : decode cX3_hangsTogether 4 = .ok (.if_icmp .ge 57, 3) := by decide +kernel
theorem dX3_hangsTogether_7 : decode cX3_hangsTogether 7 = .ok (.iconst 1, 1) := by decide +kernel
theorem dX3_hangsTogether_8 : decode cX3_hangsTogether 8 = .ok (.iload_n 3, 1) := by decide +kernel
theorem dX3_hangsTogether_9 : decode cX3_hangsTogether 9 = .ok (.ishl, 1) := by decide +kernel
theorem dX3_hangsTogether_10 : decode cX3_hangsTogether 10 = .ok (.istore 4, 2) := by decide +kernel
theorem dX3_hangsTogether_12 : decode cX3_hangsTogether 12 = .ok (.iload_n 2, 1) := by decide +kernel
theorem dX3_hangsTogether_13 : decode cX3_hangsTogether 13 = .ok (.iload 4, 2) := by decide +kernel
theorem dX3_hangsTogether_15 : decode cX3_hangsTogether 15 = .ok (.ixor, 1) := by decide +kernel
theorem dX3_hangsTogether_16 : decode cX3_hangsTogether 16 = .ok (.istore 5, 2) := by decide +kernel
theorem dX3_hangsTogether_18 : decode cX3_hangsTogether 18 = .ok (.iload_n 2, 1) := by decide +kernel
theorem dX3_hangsTogether_19 : decode cX3_hangsTogether 19 = .ok (.iload 4, 2) := by decide +kernel
theorem dX3_hangsTogether_21 : decode cX3_hangsTogether 21 = .ok (.iand, 1) := by decide +kernel
theorem dX3_hangsTogether_22 : decode cX3_hangsTogether 22 = .ok (.ifCond .eq 33, 3) := by decide +kernel
theorem dX3_hangsTogether_25 : decode cX3_hangsTogether 25 = .ok (.aload_n 0, 1) := by decide +kernel
theorem dX3_hangsTogether_26 : decode cX3_hangsTogether 26 = .ok (.getfield 24, 3) := by decide +kernel
theorem dX3_hangsTogether_29 : decode cX3_hangsTogether 29 = .ok (.iload 5, 2) := by decide +kernel
theorem dX3_hangsTogether_31 : decode cX3_hangsTogether 31 = .ok (.baload, 1) := by decide +kernel
theorem dX3_hangsTogether_32 : decode cX3_hangsTogether 32 = .ok (.ifCond .eq 23, 3) := by decide +kernel
theorem dX3_hangsTogether_35 : decode cX3_hangsTogether 35 = .ok (.aload_n 0, 1) := by decide +kernel
theorem dX3_hangsTogether_36 : decode cX3_hangsTogether 36 = .ok (.getfield 15, 3) := by decide +kernel
theorem dX3_hangsTogether_39 : decode cX3_hangsTogether 39 = .ok (.iload 5, 2) := by decide +kernel
theorem dX3_hangsTogether_41 : decode cX3_hangsTogether 41 = .ok (.iaload, 1) := by decide +kernel
theorem dX3_hangsTogether_42 : decode cX3_hangsTogether 42 = .ok (.aload_n 0, 1) := by decide +kernel
theorem dX3_hangsTogether_43 : decode cX3_hangsTogether 43 = .ok (.getfield 15, 3) := by decide +kernel
theorem dX3_hangsTogether_46 : decode cX3_hangsTogether 46 = .ok (.iload 4, 2) := by decide +kernel
theorem dX3_hangsTogether_48 : decode cX3_hangsTogether 48 = .ok (.iaload, 1) := by decide +kernel
theorem dX3_hangsTogether_49 : decode cX3_hangsTogether 49 = .ok (.iand, 1) := by decide +kernel
theorem dX3_hangsTogether_50 : decode cX3_hangsTogether 50 = .ok (.ifCond .eq 5, 3) := by decide +kernel
theorem dX3_hangsTogether_53 : decode cX3_hangsTogether 53 = .ok (.iconst 1, 1) := by decide +kernel
theorem dX3_hangsTogether_54 : decode cX3_hangsTogether 54 = .ok (.ireturn, 1) := by decide +kernel
theorem dX3_hangsTogether_55 : decode cX3_hangsTogether 55 = .ok (.iinc 3 1, 3) := by decide +kernel
theorem dX3_hangsTogether_58 : decode cX3_hangsTogether 58 = .ok (.goto (-56), 3) := by decide +kernel
theorem dX3_hangsTogether_61 : decode cX3_hangsTogether 61 = .ok (.iconst 0, 1) := by decide +kernel
theorem dX3_hangsTogether_62 : decode cX3_hangsTogether 62 = .ok (.ireturn, 1) := by decide +kernel
theorem dX3_countFewest_0 : decode cX3_countFewest 0 = .ok (.aload_n 0, 1) := by decide +kernel
theorem dX3_countFewest_1 : decode cX3_countFewest 1 = .ok (.getfield 21, 3) := by decide +kernel
theorem dX3_countFewest_4 : decode cX3_countFewest 4 = .ok (.iconst 0, 1) := by decide +kernel
theorem dX3_countFewest_5 : decode cX3_countFewest 5 = .ok (.iconst 0, 1) := by decide +kernel
theorem dX3_countFewest_6 : decode cX3_countFewest 6 = .ok (.iastore, 1) := by decide +kernel
theorem dX3_countFewest_7 : decode cX3_countFewest 7 = .ok (.iconst 1, 1) := by decide +kernel
theorem dX3_countFewest_8 : decode cX3_countFewest 8 = .ok (.istore_n 2, 1) := by decide +kernel
theorem dX3_countFewest_9 : decode cX3_countFewest 9 = .ok (.iload_n 2, 1) := by decide +kernel
theorem dX3_countFewest_10 : decode cX3_countFewest 10 = .ok (.iload_n 1, 1) := by decide +kernel
theorem dX3_countFewest_11 : decode cX3_countFewest 11 = .ok (.if_icmp .gt 20, 3) := by decide +kernel
theorem dX3_countFewest_14 : decode cX3_countFewest 14 = .ok (.aload_n 0, 1) := by decide +kernel
theorem dX3_countFewest_15 : decode cX3_countFewest 15 = .ok (.getfield 21, 3) := by decide +kernel
theorem dX3_countFewest_18 : decode cX3_countFewest 18 = .ok (.iload_n 2, 1) := by decide +kernel
theorem dX3_countFewest_19 : decode cX3_countFewest 19 = .ok (.aload_n 0, 1) := by decide +kernel
theorem dX3_countFewest_20 : decode cX3_countFewest 20 = .ok (.iload_n 2, 1) := by decide +kernel
theorem dX3_countFewest_21 : decode cX3_countFewest 21 = .ok (.invokevirtual 96, 3) := by decide +kernel
theorem dX3_countFewest_24 : decode cX3_countFewest 24 = .ok (.iastore, 1) := by decide +kernel
theorem dX3_countFewest_25 : decode cX3_countFewest 25 = .ok (.iinc 2 1, 3) := by decide +kernel
theorem dX3_countFewest_28 : decode cX3_countFewest 28 = .ok (.goto (-19), 3) := by decide +kernel
theorem dX3_countFewest_31 : decode cX3_countFewest 31 = .ok (.return_, 1) := by decide +kernel
theorem dX3_fewestOf_0 : decode cX3_fewestOf 0 = .ok (.iload_n 1, 1) := by decide +kernel
theorem dX3_fewestOf_1 : decode cX3_fewestOf 1 = .ok (.iload_n 1, 1) := by decide +kernel
theorem dX3_fewestOf_2 : decode cX3_fewestOf 2 = .ok (.ineg, 1) := by decide +kernel
theorem dX3_fewestOf_3 : decode cX3_fewestOf 3 = .ok (.iand, 1) := by decide +kernel
theorem dX3_fewestOf_4 : decode cX3_fewestOf 4 = .ok (.istore_n 2, 1) := by decide +kernel
theorem dX3_fewestOf_5 : decode cX3_fewestOf 5 = .ok (.iload_n 1, 1) := by decide +kernel
theorem dX3_fewestOf_6 : decode cX3_fewestOf 6 = .ok (.iload_n 2, 1) := by decide +kernel
theorem dX3_fewestOf_7 : decode cX3_fewestOf 7 = .ok (.ixor, 1) := by decide +kernel
theorem dX3_fewestOf_8 : decode cX3_fewestOf 8 = .ok (.istore_n 3, 1) := by decide +kernel
theorem dX3_fewestOf_9 : decode cX3_fewestOf 9 = .ok (.iload_n 3, 1) := by decide +kernel
theorem dX3_fewestOf_10 : decode cX3_fewestOf 10 = .ok (.istore 4, 2) := by decide +kernel
theorem dX3_fewestOf_12 : decode cX3_fewestOf 12 = .ok (.bipush 99, 2) := by decide +kernel
theorem dX3_fewestOf_14 : decode cX3_fewestOf 14 = .ok (.istore 5, 2) := by decide +kernel
theorem dX3_fewestOf_16 : decode cX3_fewestOf 16 = .ok (.iconst 1, 1) := by decide +kernel
theorem dX3_fewestOf_17 : decode cX3_fewestOf 17 = .ok (.iload_n 3, 1) := by decide +kernel
theorem dX3_fewestOf_18 : decode cX3_fewestOf 18 = .ok (.invokestatic 93, 3) := by decide +kernel
theorem dX3_fewestOf_21 : decode cX3_fewestOf 21 = .ok (.ishl, 1) := by decide +kernel
theorem dX3_fewestOf_22 : decode cX3_fewestOf 22 = .ok (.istore 6, 2) := by decide +kernel
theorem dX3_fewestOf_24 : decode cX3_fewestOf 24 = .ok (.iload 6, 2) := by decide +kernel
theorem dX3_fewestOf_26 : decode cX3_fewestOf 26 = .ok (.ifCond .le 47, 3) := by decide +kernel
theorem dX3_fewestOf_29 : decode cX3_fewestOf 29 = .ok (.aload_n 0, 1) := by decide +kernel
theorem dX3_fewestOf_30 : decode cX3_fewestOf 30 = .ok (.getfield 28, 3) := by decide +kernel
theorem dX3_fewestOf_33 : decode cX3_fewestOf 33 = .ok (.iload_n 2, 1) := by decide +kernel
theorem dX3_fewestOf_34 : decode cX3_fewestOf 34 = .ok (.iload 4, 2) := by decide +kernel
theorem dX3_fewestOf_36 : decode cX3_fewestOf 36 = .ok (.ior, 1) := by decide +kernel
theorem dX3_fewestOf_37 : decode cX3_fewestOf 37 = .ok (.baload, 1) := by decide +kernel
theorem dX3_fewestOf_38 : decode cX3_fewestOf 38 = .ok (.ifCond .eq 21, 3) := by decide +kernel
theorem dX3_fewestOf_41 : decode cX3_fewestOf 41 = .ok (.iload 5, 2) := by decide +kernel
theorem dX3_fewestOf_43 : decode cX3_fewestOf 43 = .ok (.aload_n 0, 1) := by decide +kernel
theorem dX3_fewestOf_44 : decode cX3_fewestOf 44 = .ok (.getfield 21, 3) := by decide +kernel
theorem dX3_fewestOf_47 : decode cX3_fewestOf 47 = .ok (.iload_n 3, 1) := by decide +kernel
theorem dX3_fewestOf_48 : decode cX3_fewestOf 48 = .ok (.iload 4, 2) := by decide +kernel
theorem dX3_fewestOf_50 : decode cX3_fewestOf 50 = .ok (.ixor, 1) := by decide +kernel
theorem dX3_fewestOf_51 : decode cX3_fewestOf 51 = .ok (.iaload, 1) := by decide +kernel
theorem dX3_fewestOf_52 : decode cX3_fewestOf 52 = .ok (.iconst 1, 1) := by decide +kernel
theorem dX3_fewestOf_53 : decode cX3_fewestOf 53 = .ok (.iadd, 1) := by decide +kernel
theorem dX3_fewestOf_54 : decode cX3_fewestOf 54 = .ok (.invokestatic 99, 3) := by decide +kernel
theorem dX3_fewestOf_57 : decode cX3_fewestOf 57 = .ok (.istore 5, 2) := by decide +kernel
theorem dX3_fewestOf_59 : decode cX3_fewestOf 59 = .ok (.iload 4, 2) := by decide +kernel
theorem dX3_fewestOf_61 : decode cX3_fewestOf 61 = .ok (.iconst 1, 1) := by decide +kernel
theorem dX3_fewestOf_62 : decode cX3_fewestOf 62 = .ok (.isub, 1) := by decide +kernel
theorem dX3_fewestOf_63 : decode cX3_fewestOf 63 = .ok (.iload_n 3, 1) := by decide +kernel
theorem dX3_fewestOf_64 : decode cX3_fewestOf 64 = .ok (.iand, 1) := by decide +kernel
theorem dX3_fewestOf_65 : decode cX3_fewestOf 65 = .ok (.istore 4, 2) := by decide +kernel
theorem dX3_fewestOf_67 : decode cX3_fewestOf 67 = .ok (.iinc 6 (-1), 3) := by decide +kernel
theorem dX3_fewestOf_70 : decode cX3_fewestOf 70 = .ok (.goto (-46), 3) := by decide +kernel
theorem dX3_fewestOf_73 : decode cX3_fewestOf 73 = .ok (.iload 5, 2) := by decide +kernel
theorem dX3_fewestOf_75 : decode cX3_fewestOf 75 = .ok (.ireturn, 1) := by decide +kernel
theorem dX3_keepSets_0 : decode cX3_keepSets 0 = .ok (.iload_n 1, 1) := by decide +kernel
theorem dX3_keepSets_1 : decode cX3_keepSets 1 = .ok (.istore_n 3, 1) := by decide +kernel
theorem dX3_keepSets_2 : decode cX3_keepSets 2 = .ok (.iconst 0, 1) := by decide +kernel
theorem dX3_keepSets_3 : decode cX3_keepSets 3 = .ok (.istore 4, 2) := by decide +kernel
theorem dX3_keepSets_5 : decode cX3_keepSets 5 = .ok (.iload_n 3, 1) := by decide +kernel
theorem dX3_keepSets_6 : decode cX3_keepSets 6 = .ok (.ifCond .eq 44, 3) := by decide +kernel
theorem dX3_keepSets_9 : decode cX3_keepSets 9 = .ok (.iload 4, 2) := by decide +kernel
theorem dX3_keepSets_11 : decode cX3_keepSets 11 = .ok (.bipush 10, 2) := by decide +kernel
theorem dX3_keepSets_13 : decode cX3_keepSets 13 = .ok (.if_icmp .ge 37, 3) := by decide +kernel
theorem dX3_keepSets_16 : decode cX3_keepSets 16 = .ok (.aload_n 0, 1) := by decide +kernel
theorem dX3_keepSets_17 : decode cX3_keepSets 17 = .ok (.iload_n 3, 1) := by decide +kernel
theorem dX3_keepSets_18 : decode cX3_keepSets 18 = .ok (.invokevirtual 104, 3) := by decide +kernel
theorem dX3_keepSets_21 : decode cX3_keepSets 21 = .ok (.istore 5, 2) := by decide +kernel
theorem dX3_keepSets_23 : decode cX3_keepSets 23 = .ok (.aload_n 0, 1) := by decide +kernel
theorem dX3_keepSets_24 : decode cX3_keepSets 24 = .ok (.getfield 34, 3) := by decide +kernel
theorem dX3_keepSets_27 : decode cX3_keepSets 27 = .ok (.iload_n 2, 1) := by decide +kernel
theorem dX3_keepSets_28 : decode cX3_keepSets 28 = .ok (.bipush 10, 2) := by decide +kernel
theorem dX3_keepSets_30 : decode cX3_keepSets 30 = .ok (.imul, 1) := by decide +kernel
theorem dX3_keepSets_31 : decode cX3_keepSets 31 = .ok (.iload 4, 2) := by decide +kernel
theorem dX3_keepSets_33 : decode cX3_keepSets 33 = .ok (.iadd, 1) := by decide +kernel
theorem dX3_keepSets_34 : decode cX3_keepSets 34 = .ok (.iload 5, 2) := by decide +kernel
theorem dX3_keepSets_36 : decode cX3_keepSets 36 = .ok (.iastore, 1) := by decide +kernel
theorem dX3_keepSets_37 : decode cX3_keepSets 37 = .ok (.iload_n 3, 1) := by decide +kernel
theorem dX3_keepSets_38 : decode cX3_keepSets 38 = .ok (.iload 5, 2) := by decide +kernel
theorem dX3_keepSets_40 : decode cX3_keepSets 40 = .ok (.iconst (-1), 1) := by decide +kernel
theorem dX3_keepSets_41 : decode cX3_keepSets 41 = .ok (.ixor, 1) := by decide +kernel
theorem dX3_keepSets_42 : decode cX3_keepSets 42 = .ok (.iand, 1) := by decide +kernel
theorem dX3_keepSets_43 : decode cX3_keepSets 43 = .ok (.istore_n 3, 1) := by decide +kernel
theorem dX3_keepSets_44 : decode cX3_keepSets 44 = .ok (.iinc 4 1, 3) := by decide +kernel
theorem dX3_keepSets_47 : decode cX3_keepSets 47 = .ok (.goto (-42), 3) := by decide +kernel
theorem dX3_keepSets_50 : decode cX3_keepSets 50 = .ok (.iload 4, 2) := by decide +kernel
theorem dX3_keepSets_52 : decode cX3_keepSets 52 = .ok (.ireturn, 1) := by decide +kernel
theorem dX3_lowestSet_0 : decode cX3_lowestSet 0 = .ok (.iload_n 1, 1) := by decide +kernel
theorem dX3_lowestSet_1 : decode cX3_lowestSet 1 = .ok (.iload_n 1, 1) := by decide +kernel
theorem dX3_lowestSet_2 : decode cX3_lowestSet 2 = .ok (.ineg, 1) := by decide +kernel
theorem dX3_lowestSet_3 : decode cX3_lowestSet 3 = .ok (.iand, 1) := by decide +kernel
theorem dX3_lowestSet_4 : decode cX3_lowestSet 4 = .ok (.istore_n 2, 1) := by decide +kernel
theorem dX3_lowestSet_5 : decode cX3_lowestSet 5 = .ok (.iload_n 2, 1) := by decide +kernel
theorem dX3_lowestSet_6 : decode cX3_lowestSet 6 = .ok (.istore_n 3, 1) := by decide +kernel
theorem dX3_lowestSet_7 : decode cX3_lowestSet 7 = .ok (.iload_n 3, 1) := by decide +kernel
theorem dX3_lowestSet_8 : decode cX3_lowestSet 8 = .ok (.iload_n 1, 1) := by decide +kernel
theorem dX3_lowestSet_9 : decode cX3_lowestSet 9 = .ok (.if_icmp .ge 65, 3) := by decide +kernel
theorem dX3_lowestSet_12 : decode cX3_lowestSet 12 = .ok (.iload_n 3, 1) := by decide +kernel
theorem dX3_lowestSet_13 : decode cX3_lowestSet 13 = .ok (.iload_n 2, 1) := by decide +kernel
theorem dX3_lowestSet_14 : decode cX3_lowestSet 14 = .ok (.iand, 1) := by decide +kernel
theorem dX3_lowestSet_15 : decode cX3_lowestSet 15 = .ok (.ifCond .eq 15, 3) := by decide +kernel
theorem dX3_lowestSet_18 : decode cX3_lowestSet 18 = .ok (.iload_n 3, 1) := by decide +kernel
theorem dX3_lowestSet_19 : decode cX3_lowestSet 19 = .ok (.iload_n 1, 1) := by decide +kernel
theorem dX3_lowestSet_20 : decode cX3_lowestSet 20 = .ok (.iconst (-1), 1) := by decide +kernel
theorem dX3_lowestSet_21 : decode cX3_lowestSet 21 = .ok (.ixor, 1) := by decide +kernel
theorem dX3_lowestSet_22 : decode cX3_lowestSet 22 = .ok (.iand, 1) := by decide +kernel
theorem dX3_lowestSet_23 : decode cX3_lowestSet 23 = .ok (.ifCond .ne 7, 3) := by decide +kernel
theorem dX3_lowestSet_26 : decode cX3_lowestSet 26 = .ok (.iconst 1, 1) := by decide +kernel
theorem dX3_lowestSet_27 : decode cX3_lowestSet 27 = .ok (.goto 4, 3) := by decide +kernel
theorem dX3_lowestSet_30 : decode cX3_lowestSet 30 = .ok (.iconst 0, 1) := by decide +kernel
theorem dX3_lowestSet_31 : decode cX3_lowestSet 31 = .ok (.istore 4, 2) := by decide +kernel
theorem dX3_lowestSet_33 : decode cX3_lowestSet 33 = .ok (.iload 4, 2) := by decide +kernel
theorem dX3_lowestSet_35 : decode cX3_lowestSet 35 = .ok (.ifCond .eq 33, 3) := by decide +kernel
theorem dX3_lowestSet_38 : decode cX3_lowestSet 38 = .ok (.aload_n 0, 1) := by decide +kernel
theorem dX3_lowestSet_39 : decode cX3_lowestSet 39 = .ok (.getfield 28, 3) := by decide +kernel
theorem dX3_lowestSet_42 : decode cX3_lowestSet 42 = .ok (.iload_n 3, 1) := by decide +kernel
theorem dX3_lowestSet_43 : decode cX3_lowestSet 43 = .ok (.baload, 1) := by decide +kernel
theorem dX3_lowestSet_44 : decode cX3_lowestSet 44 = .ok (.ifCond .eq 24, 3) := by decide +kernel
theorem dX3_lowestSet_47 : decode cX3_lowestSet 47 = .ok (.aload_n 0, 1) := by decide +kernel
theorem dX3_lowestSet_48 : decode cX3_lowestSet 48 = .ok (.getfield 21, 3) := by decide +kernel
theorem dX3_lowestSet_51 : decode cX3_lowestSet 51 = .ok (.iload_n 1, 1) := by decide +kernel
theorem dX3_lowestSet_52 : decode cX3_lowestSet 52 = .ok (.iload_n 3, 1) := by decide +kernel
theorem dX3_lowestSet_53 : decode cX3_lowestSet 53 = .ok (.ixor, 1) := by decide +kernel
theorem dX3_lowestSet_54 : decode cX3_lowestSet 54 = .ok (.iaload, 1) := by decide +kernel
theorem dX3_lowestSet_55 : decode cX3_lowestSet 55 = .ok (.iconst 1, 1) := by decide +kernel
theorem dX3_lowestSet_56 : decode cX3_lowestSet 56 = .ok (.iadd, 1) := by decide +kernel
theorem dX3_lowestSet_57 : decode cX3_lowestSet 57 = .ok (.aload_n 0, 1) := by decide +kernel
theorem dX3_lowestSet_58 : decode cX3_lowestSet 58 = .ok (.getfield 21, 3) := by decide +kernel
theorem dX3_lowestSet_61 : decode cX3_lowestSet 61 = .ok (.iload_n 1, 1) := by decide +kernel
theorem dX3_lowestSet_62 : decode cX3_lowestSet 62 = .ok (.iaload, 1) := by decide +kernel
theorem dX3_lowestSet_63 : decode cX3_lowestSet 63 = .ok (.if_icmp .ne 5, 3) := by decide +kernel
theorem dX3_lowestSet_66 : decode cX3_lowestSet 66 = .ok (.iload_n 3, 1) := by decide +kernel
theorem dX3_lowestSet_67 : decode cX3_lowestSet 67 = .ok (.ireturn, 1) := by decide +kernel
theorem dX3_lowestSet_68 : decode cX3_lowestSet 68 = .ok (.iinc 3 1, 3) := by decide +kernel
theorem dX3_lowestSet_71 : decode cX3_lowestSet 71 = .ok (.goto (-64), 3) := by decide +kernel
theorem dX3_lowestSet_74 : decode cX3_lowestSet 74 = .ok (.iload_n 1, 1) := by decide +kernel
theorem dX3_lowestSet_75 : decode cX3_lowestSet 75 = .ok (.ireturn, 1) := by decide +kernel
theorem dX4_init_0 : decode cX4_init 0 = .ok (.aload_n 0, 1) := by decide +kernel
theorem dX4_init_1 : decode cX4_init 1 = .ok (.invokespecial 3, 3) := by decide +kernel
theorem dX4_init_4 : decode cX4_init 4 = .ok (.aload_n 0, 1) := by decide +kernel
theorem dX4_init_5 : decode cX4_init 5 = .ok (.bipush 8, 2) := by decide +kernel
theorem dX4_init_7 : decode cX4_init 7 = .ok (.newarray .int, 2) := by decide +kernel
theorem dX4_init_9 : decode cX4_init 9 = .ok (.putfield 11, 3) := by decide +kernel
theorem dX4_init_12 : decode cX4_init 12 = .ok (.aload_n 0, 1) := by decide +kernel
theorem dX4_init_13 : decode cX4_init 13 = .ok (.bipush 64, 2) := by decide +kernel
theorem dX4_init_15 : decode cX4_init 15 = .ok (.newarray .int, 2) := by decide +kernel
theorem dX4_init_17 : decode cX4_init 17 = .ok (.putfield 15, 3) := by decide +kernel
theorem dX4_init_20 : decode cX4_init 20 = .ok (.aload_n 0, 1) := by decide +kernel
theorem dX4_init_21 : decode cX4_init 21 = .ok (.bipush 64, 2) := by decide +kernel
theorem dX4_init_23 : decode cX4_init 23 = .ok (.newarray .int, 2) := by decide +kernel
theorem dX4_init_25 : decode cX4_init 25 = .ok (.putfield 18, 3) := by decide +kernel
theorem dX4_init_28 : decode cX4_init 28 = .ok (.aload_n 0, 1) := by decide +kernel
theorem dX4_init_29 : decode cX4_init 29 = .ok (.bipush 48, 2) := by decide +kernel
theorem dX4_init_31 : decode cX4_init 31 = .ok (.newarray .int, 2) := by decide +kernel
theorem dX4_init_33 : decode cX4_init 33 = .ok (.putfield 21, 3) := by decide +kernel
theorem dX4_init_36 : decode cX4_init 36 = .ok (.aload_n 0, 1) := by decide +kernel
theorem dX4_init_37 : decode cX4_init 37 = .ok (.bipush 48, 2) := by decide +kernel
theorem dX4_init_39 : decode cX4_init 39 = .ok (.newarray .int, 2) := by decide +kernel
theorem dX4_init_41 : decode cX4_init 41 = .ok (.putfield 24, 3) := by decide +kernel
theorem dX4_init_44 : decode cX4_init 44 = .ok (.return_, 1) := by decide +kernel
theorem dX4_mayCompare_0 : decode cX4_mayCompare 0 = .ok (.aload_n 0, 1) := by decide +kernel
theorem dX4_mayCompare_1 : decode cX4_mayCompare 1 = .ok (.ifnull 16, 3) := by decide +kernel
theorem dX4_mayCompare_4 : decode cX4_mayCompare 4 = .ok (.aload_n 0, 1) := by decide +kernel
theorem dX4_mayCompare_5 : decode cX4_mayCompare 5 = .ok (.getfield 27, 3) := by decide +kernel
theorem dX4_mayCompare_8 : decode cX4_mayCompare 8 = .ok (.bipush 8, 2) := by decide +kernel
theorem dX4_mayCompare_10 : decode cX4_mayCompare 10 = .ok (.if_icmp .gt 7, 3) := by decide +kernel
theorem dX4_mayCompare_13 : decode cX4_mayCompare 13 = .ok (.iconst 1, 1) := by decide +kernel
theorem dX4_mayCompare_14 : decode cX4_mayCompare 14 = .ok (.goto 4, 3) := by decide +kernel
theorem dX4_mayCompare_17 : decode cX4_mayCompare 17 = .ok (.iconst 0, 1) := by decide +kernel
theorem dX4_mayCompare_18 : decode cX4_mayCompare 18 = .ok (.ireturn, 1) := by decide +kernel
theorem dX4_matches_0 : decode cX4_matches 0 = .ok (.aload_n 0, 1) := by decide +kernel
theorem dX4_matches_1 : decode cX4_matches 1 = .ok (.getfield 33, 3) := by decide +kernel
theorem dX4_matches_4 : decode cX4_matches 4 = .ok (.aload_n 1, 1) := by decide +kernel
theorem dX4_matches_5 : decode cX4_matches 5 = .ok (.if_acmp .ne 11, 3) := by decide +kernel
theorem dX4_matches_8 : decode cX4_matches 8 = .ok (.aload_n 0, 1) := by decide +kernel
theorem dX4_matches_9 : decode cX4_matches 9 = .ok (.getfield 37, 3) := by decide +kernel
theorem dX4_matches_12 : decode cX4_matches 12 = .ok (.aload_n 2, 1) := by decide +kernel
theorem dX4_matches_13 : decode cX4_matches 13 = .ok (.if_acmp .eq 53, 3) := by decide +kernel
theorem dX4_matches_16 : decode cX4_matches 16 = .ok (.aload_n 0, 1) := by decide +kernel
theorem dX4_matches_17 : decode cX4_matches 17 = .ok (.aload_n 1, 1) := by decide +kernel
theorem dX4_matches_18 : decode cX4_matches 18 = .ok (.putfield 33, 3) := by decide +kernel
theorem dX4_matches_21 : decode cX4_matches 21 = .ok (.aload_n 0, 1) := by decide +kernel
theorem dX4_matches_22 : decode cX4_matches 22 = .ok (.aload_n 2, 1) := by decide +kernel
theorem dX4_matches_23 : decode cX4_matches 23 = .ok (.putfield 37, 3) := by decide +kernel
theorem dX4_matches_26 : decode cX4_matches 26 = .ok (.aload_n 0, 1) := by decide +kernel
theorem dX4_matches_27 : decode cX4_matches 27 = .ok (.aload_n 1, 1) := by decide +kernel
theorem dX4_matches_28 : decode cX4_matches 28 = .ok (.getfield 27, 3) := by decide +kernel
theorem dX4_matches_31 : decode cX4_matches 31 = .ok (.aload_n 2, 1) := by decide +kernel
theorem dX4_matches_32 : decode cX4_matches 32 = .ok (.getfield 27, 3) := by decide +kernel
theorem dX4_matches_35 : decode cX4_matches 35 = .ok (.if_icmp .ne 27, 3) := by decide +kernel
theorem dX4_matches_38 : decode cX4_matches 38 = .ok (.aload_n 1, 1) := by decide +kernel
theorem dX4_matches_39 : decode cX4_matches 39 = .ok (.getfield 40, 3) := by decide +kernel
theorem dX4_matches_42 : decode cX4_matches 42 = .ok (.aload_n 2, 1) := by decide +kernel
theorem dX4_matches_43 : decode cX4_matches 43 = .ok (.getfield 40, 3) := by decide +kernel
theorem dX4_matches_46 : decode cX4_matches 46 = .ok (.if_icmp .ne 16, 3) := by decide +kernel
theorem dX4_matches_49 : decode cX4_matches 49 = .ok (.aload_n 0, 1) := by decide +kernel
theorem dX4_matches_50 : decode cX4_matches 50 = .ok (.aload_n 1, 1) := by decide +kernel
theorem dX4_matches_51 : decode cX4_matches 51 = .ok (.aload_n 2, 1) := by decide +kernel
theorem dX4_matches_52 : decode cX4_matches 52 = .ok (.invokevirtual 43, 3) := by decide +kernel
theorem dX4_matches_55 : decode cX4_matches 55 = .ok (.ifCond .eq 7, 3) := by decide +kernel
theorem dX4_matches_58 : decode cX4_matches 58 = .ok (.iconst 1, 1) := by decide +kernel
theorem dX4_matches_59 : decode cX4_matches 59 = .ok (.goto 4, 3) := by decide +kernel
theorem dX4_matches_62 : decode cX4_matches 62 = .ok (.iconst 0, 1) := by decide +kernel
theorem dX4_matches_63 : decode cX4_matches 63 = .ok (.putfield 47, 3) := by decide +kernel
theorem dX4_matches_66 : decode cX4_matches 66 = .ok (.aload_n 0, 1) := by decide +kernel
theorem dX4_matches_67 : decode cX4_matches 67 = .ok (.getfield 47, 3) := by decide +kernel
theorem dX4_matches_70 : decode cX4_matches 70 = .ok (.ireturn, 1) := by decide +kernel
theorem dX4_findRow_0 : decode cX4_findRow 0 = .ok (.aload_n 0, 1) := by decide +kernel
theorem dX4_findRow_1 : decode cX4_findRow 1 = .ok (.aload_n 1, 1) := by decide +kernel
theorem dX4_findRow_2 : decode cX4_findRow 2 = .ok (.getfield 27, 3) := by decide +kernel
theorem dX4_findRow_5 : decode cX4_findRow 5 = .ok (.putfield 51, 3) := by decide +kernel
theorem dX4_findRow_8 : decode cX4_findRow 8 = .ok (.aload_n 0, 1) := by decide +kernel
theorem dX4_findRow_9 : decode cX4_findRow 9 = .ok (.iconst 0, 1) := by decide +kernel
theorem dX4_findRow_10 : decode cX4_findRow 10 = .ok (.putfield 52, 3) := by decide +kernel
theorem dX4_findRow_13 : decode cX4_findRow 13 = .ok (.aload_n 0, 1) := by decide +kernel
theorem dX4_findRow_14 : decode cX4_findRow 14 = .ok (.aload_n 1, 1) := by decide +kernel
theorem dX4_findRow_15 : decode cX4_findRow 15 = .ok (.aload_n 0, 1) := by decide +kernel
theorem dX4_findRow_16 : decode cX4_findRow 16 = .ok (.getfield 15, 3) := by decide +kernel
theorem dX4_findRow_19 : decode cX4_findRow 19 = .ok (.invokevirtual 55, 3) := by decide +kernel
theorem dX4_findRow_22 : decode cX4_findRow 22 = .ok (.aload_n 0, 1) := by decide +kernel
theorem dX4_findRow_23 : decode cX4_findRow 23 = .ok (.aload_n 2, 1) := by decide +kernel
theorem dX4_findRow_24 : decode cX4_findRow 24 = .ok (.aload_n 0, 1) := by decide +kernel
theorem dX4_findRow_25 : decode cX4_findRow 25 = .ok (.getfield 18, 3) := by decide +kernel
theorem dX4_findRow_28 : decode cX4_findRow 28 = .ok (.invokevirtual 55, 3) := by decide +kernel
theorem dX4_findRow_31 : decode cX4_findRow 31 = .ok (.aload_n 0, 1) := by decide +kernel
theorem dX4_findRow_32 : decode cX4_findRow 32 = .ok (.invokevirtual 59, 3) := by decide +kernel
theorem dX4_findRow_35 : decode cX4_findRow 35 = .ok (.ireturn, 1) := by decide +kernel
theorem dX4_tellKinds_0 : decode cX4_tellKinds 0 = .ok (.aload_n 2, 1) := by decide +kernel
theorem dX4_tellKinds_1 : decode cX4_tellKinds 1 = .ok (.iconst (-1), 1) := by decide +kernel
theorem dX4_tellKinds_2 : decode cX4_tellKinds 2 = .ok (.invokestatic 63, 3) := by decide +kernel
theorem dX4_tellKinds_5 : decode cX4_tellKinds 5 = .ok (.iconst 0, 1) := by decide +kernel
theorem dX4_tellKinds_6 : decode cX4_tellKinds 6 = .ok (.istore_n 3, 1) := by decide +kernel
theorem dX4_tellKinds_7 : decode cX4_tellKinds 7 = .ok (.iconst 0, 1) := by decide +kernel
theorem dX4_tellKinds_8 : decode cX4_tellKinds 8 = .ok (.istore 4, 2) := by decide +kernel
theorem dX4_tellKinds_10 : decode cX4_tellKinds 10 = .ok (.iload 4, 2) := by decide +kernel
theorem dX4_tellKinds_12 : decode cX4_tellKinds 12 = .ok (.aload_n 1, 1) := by decide +kernel
theorem dX4_tellKinds_13 : decode cX4_tellKinds 13 = .ok (.getfield 40, 3) := by decide +kernel
theorem dX4_tellKinds_16 : decode cX4_tellKinds 16 = .ok (.if_icmp .ge 92, 3) := by decide +kernel
theorem dX4_tellKinds_19 : decode cX4_tellKinds 19 = .ok (.aload_n 1, 1) := by decide +kernel
theorem dX4_tellKinds_20 : decode cX4_tellKinds 20 = .ok (.iload_n 3, 1) := by decide +kernel
theorem dX4_tellKinds_21 : decode cX4_tellKinds 21 = .ok (.invokestatic 69, 3) := by decide +kernel
theorem dX4_tellKinds_24 : decode cX4_tellKinds 24 = .ok (.istore 5, 2) := by decide +kernel
theorem dX4_tellKinds_26 : decode cX4_tellKinds 26 = .ok (.iload_n 3, 1) := by decide +kernel
theorem dX4_tellKinds_27 : decode cX4_tellKinds 27 = .ok (.iconst 1, 1) := by decide +kernel
theorem dX4_tellKinds_28 : decode cX4_tellKinds 28 = .ok (.iload 5, 2) := by decide +kernel
theorem dX4_tellKinds_30 : decode cX4_tellKinds 30 = .ok (.ishl, 1) := by decide +kernel
theorem dX4_tellKinds_31 : decode cX4_tellKinds 31 = .ok (.ior, 1) := by decide +kernel
theorem dX4_tellKinds_32 : decode cX4_tellKinds 32 = .ok (.istore_n 3, 1) := by decide +kernel
theorem dX4_tellKinds_33 : decode cX4_tellKinds 33 = .ok (.aload_n 1, 1) := by decide +kernel
theorem dX4_tellKinds_34 : decode cX4_tellKinds 34 = .ok (.getfield 73, 3) := by decide +kernel
theorem dX4_tellKinds_37 : decode cX4_tellKinds 37 = .ok (.iload 5, 2) := by decide +kernel
theorem dX4_tellKinds_39 : decode cX4_tellKinds 39 = .ok (.iaload, 1) := by decide +kernel
theorem dX4_tellKinds_40 : decode cX4_tellKinds 40 = .ok (.bipush 8, 2) := by decide +kernel
theorem dX4_tellKinds_42 : decode cX4_tellKinds 42 = .ok (.imul, 1) := by decide +kernel
theorem dX4_tellKinds_43 : decode cX4_tellKinds 43 = .ok (.aload_n 1, 1) := by decide +kernel
theorem dX4_tellKinds_44 : decode cX4_tellKinds 44 = .ok (.getfield 76, 3) := by decide +kernel
theorem dX4_tellKinds_47 : decode cX4_tellKinds 47 = .ok (.iload 5, 2) := by decide +kernel
theorem dX4_tellKinds_49 : decode cX4_tellKinds 49 = .ok (.iaload, 1) := by decide +kernel
theorem dX4_tellKinds_50 : decode cX4_tellKinds 50 = .ok (.iadd, 1) := by decide +kernel
theorem dX4_tellKinds_51 : decode cX4_tellKinds 51 = .ok (.istore 6, 2) := by decide +kernel
theorem dX4_tellKinds_53 : decode cX4_tellKinds 53 = .ok (.aload_n 1, 1) := by decide +kernel
theorem dX4_tellKinds_54 : decode cX4_tellKinds 54 = .ok (.getfield 76, 3) := by decide +kernel
theorem dX4_tellKinds_57 : decode cX4_tellKinds 57 = .ok (.iload 5, 2) := by decide +kernel
theorem dX4_tellKinds_59 : decode cX4_tellKinds 59 = .ok (.iaload, 1) := by decide +kernel
theorem dX4_tellKinds_60 : decode cX4_tellKinds 60 = .ok (.bipush 8, 2) := by decide +kernel
theorem dX4_tellKinds_62 : decode cX4_tellKinds 62 = .ok (.imul, 1) := by decide +kernel
theorem dX4_tellKinds_63 : decode cX4_tellKinds 63 = .ok (.aload_n 1, 1) := by decide +kernel
theorem dX4_tellKinds_64 : decode cX4_tellKinds 64 = .ok (.getfield 73, 3) := by decide +kernel
theorem dX4_tellKinds_67 : decode cX4_tellKinds 67 = .ok (.iload 5, 2) := by decide +kernel
theorem dX4_tellKinds_69 : decode cX4_tellKinds 69 = .ok (.iaload, 1) := by decide +kernel
theorem dX4_tellKinds_70 : decode cX4_tellKinds 70 = .ok (.iadd, 1) := by decide +kernel
theorem dX4_tellKinds_71 : decode cX4_tellKinds 71 = .ok (.istore 7, 2) := by decide +kernel
theorem dX4_tellKinds_73 : decode cX4_tellKinds 73 = .ok (.aload_n 0, 1) := by decide +kernel
theorem dX4_tellKinds_74 : decode cX4_tellKinds 74 = .ok (.aload_n 2, 1) := by decide +kernel
theorem dX4_tellKinds_75 : decode cX4_tellKinds 75 = .ok (.iload 6, 2) := by decide +kernel
theorem dX4_tellKinds_77 : decode cX4_tellKinds 77 = .ok (.iaload, 1) := by decide +kernel
theorem dX4_tellKinds_78 : decode cX4_tellKinds 78 = .ok (.aload_n 1, 1) := by decide +kernel
theorem dX4_tellKinds_79 : decode cX4_tellKinds 79 = .ok (.getfield 79, 3) := by decide +kernel
theorem dX4_tellKinds_82 : decode cX4_tellKinds 82 = .ok (.iload 5, 2) := by decide +kernel
theorem dX4_tellKinds_84 : decode cX4_tellKinds 84 = .ok (.iaload, 1) := by decide +kernel
theorem dX4_tellKinds_85 : decode cX4_tellKinds 85 = .ok (.invokevirtual 82, 3) := by decide +kernel
theorem dX4_tellKinds_88 : decode cX4_tellKinds 88 = .ok (.istore 8, 2) := by decide +kernel
theorem dX4_tellKinds_90 : decode cX4_tellKinds 90 = .ok (.aload_n 2, 1) := by decide +kernel
theorem dX4_tellKinds_91 : decode cX4_tellKinds 91 = .ok (.iload 6, 2) := by decide +kernel
theorem dX4_tellKinds_93 : decode cX4_tellKinds 93 = .ok (.iload 8, 2) := by decide +kernel
theorem dX4_tellKinds_95 : decode cX4_tellKinds 95 = .ok (.iastore, 1) := by decide +kernel
theorem dX4_tellKinds_96 : decode cX4_tellKinds 96 = .ok (.aload_n 2, 1) := by decide +kernel
theorem dX4_tellKinds_97 : decode cX4_tellKinds 97 = .ok (.iload 7, 2) := by decide +kernel
theorem dX4_tellKinds_99 : decode cX4_tellKinds 99 = .ok (.iload 8, 2) := by decide +kernel
theorem dX4_tellKinds_101 : decode cX4_tellKinds 101 = .ok (.iastore, 1) := by decide +kernel
theorem dX4_tellKinds_102 : decode cX4_tellKinds 102 = .ok (.iinc 4 1, 3) := by decide +kernel
theorem dX4_tellKinds_105 : decode cX4_tellKinds 105 = .ok (.goto (-95), 3) := by decide +kernel
theorem dX4_tellKinds_108 : decode cX4_tellKinds 108 = .ok (.return_, 1) := by decide +kernel
theorem dX4_shortest_0 : decode cX4_shortest 0 = .ok (.iconst 0, 1) := by decide +kernel
theorem dX4_shortest_1 : decode cX4_shortest 1 = .ok (.istore_n 2, 1) := by decide +kernel
theorem dX4_shortest_2 : decode cX4_shortest 2 = .ok (.ldc 86, 2) := by decide +kernel
theorem dX4_shortest_4 : decode cX4_shortest 4 = .ok (.istore_n 3, 1) := by decide +kernel
theorem dX4_shortest_5 : decode cX4_shortest 5 = .ok (.iconst 0, 1) := by decide +kernel
theorem dX4_shortest_6 : decode cX4_shortest 6 = .ok (.istore 4, 2) := by decide +kernel
theorem dX4_shortest_8 : decode cX4_shortest 8 = .ok (.iload 4, 2) := by decide +kernel
theorem dX4_shortest_10 : decode cX4_shortest 10 = .ok (.aload_n 0, 1) := by decide +kernel
theorem dX4_shortest_11 : decode cX4_shortest 11 = .ok (.getfield 40, 3) := by decide +kernel
theorem dX4_shortest_14 : decode cX4_shortest 14 = .ok (.if_icmp .ge 40, 3) := by decide +kernel
theorem dX4_shortest_17 : decode cX4_shortest 17 = .ok (.iload_n 1, 1) := by decide +kernel
theorem dX4_shortest_18 : decode cX4_shortest 18 = .ok (.iconst 1, 1) := by decide +kernel
theorem dX4_shortest_19 : decode cX4_shortest 19 = .ok (.iload 4, 2) := by decide +kernel
theorem dX4_shortest_21 : decode cX4_shortest 21 = .ok (.ishl, 1) := by decide +kernel
theorem dX4_shortest_22 : decode cX4_shortest 22 = .ok (.iand, 1) := by decide +kernel
theorem dX4_shortest_23 : decode cX4_shortest 23 = .ok (.ifCond .ne 25, 3) := by decide +kernel
theorem dX4_shortest_26 : decode cX4_shortest 26 = .ok (.aload_n 0, 1) := by decide +kernel
theorem dX4_shortest_27 : decode cX4_shortest 27 = .ok (.getfield 79, 3) := by decide +kernel
theorem dX4_shortest_30 : decode cX4_shortest 30 = .ok (.iload 4, 2) := by decide +kernel
theorem dX4_shortest_32 : decode cX4_shortest 32 = .ok (.iaload, 1) := by decide +kernel
theorem dX4_shortest_33 : decode cX4_shortest 33 = .ok (.iload_n 3, 1) := by decide +kernel
theorem dX4_shortest_34 : decode cX4_shortest 34 = .ok (.if_icmp .ge 14, 3) := by decide +kernel
theorem dX4_shortest_37 : decode cX4_shortest 37 = .ok (.aload_n 0, 1) := by decide +kernel
theorem dX4_shortest_38 : decode cX4_shortest 38 = .ok (.getfield 79, 3) := by decide +kernel
theorem dX4_shortest_41 : decode cX4_shortest 41 = .ok (.iload 4, 2) := by decide +kernel
theorem dX4_shortest_43 : decode cX4_shortest 43 = .ok (.iaload, 1) := by decide +kernel
theorem dX4_shortest_44 : decode cX4_shortest 44 = .ok (.istore_n 3, 1) := by decide +kernel
theorem dX4_shortest_45 : decode cX4_shortest 45 = .ok (.iload 4, 2) := by decide +kernel
theorem dX4_shortest_47 : decode cX4_shortest 47 = .ok (.istore_n 2, 1) := by decide +kernel
theorem dX4_shortest_48 : decode cX4_shortest 48 = .ok (.iinc 4 1, 3) := by decide +kernel
theorem dX4_shortest_51 : decode cX4_shortest 51 = .ok (.goto (-43), 3) := by decide +kernel
theorem dX4_shortest_54 : decode cX4_shortest 54 = .ok (.iload_n 2, 1) := by decide +kernel
theorem dX4_shortest_55 : decode cX4_shortest 55 = .ok (.ireturn, 1) := by decide +kernel
theorem dX4_kindBehind_0 : decode cX4_kindBehind 0 = .ok (.iconst 0, 1) := by decide +kernel
theorem dX4_kindBehind_1 : decode cX4_kindBehind 1 = .ok (.istore_n 3, 1) := by decide +kernel
theorem dX4_kindBehind_2 : decode cX4_kindBehind 2 = .ok (.iload_n 3, 1) := by decide +kernel
theorem dX4_kindBehind_3 : decode cX4_kindBehind 3 = .ok (.aload_n 0, 1) := by decide +kernel
theorem dX4_kindBehind_4 : decode cX4_kindBehind 4 = .ok (.getfield 52, 3) := by decide +kernel
theorem dX4_kindBehind_7 : decode cX4_kindBehind 7 = .ok (.if_icmp .ge 31, 3) := by decide +kernel
theorem dX4_kindBehind_10 : decode cX4_kindBehind 10 = .ok (.aload_n 0, 1) := by decide +kernel
theorem dX4_kindBehind_11 : decode cX4_kindBehind 11 = .ok (.getfield 21, 3) := by decide +kernel
theorem dX4_kindBehind_14 : decode cX4_kindBehind 14 = .ok (.iload_n 3, 1) := by decide +kernel
theorem dX4_kindBehind_15 : decode cX4_kindBehind 15 = .ok (.iaload, 1) := by decide +kernel
theorem dX4_kindBehind_16 : decode cX4_kindBehind 16 = .ok (.iload_n 1, 1) := by decide +kernel
theorem dX4_kindBehind_17 : decode cX4_kindBehind 17 = .ok (.if_icmp .ne 15, 3) := by decide +kernel
theorem dX4_kindBehind_20 : decode cX4_kindBehind 20 = .ok (.aload_n 0, 1) := by decide +kernel
theorem dX4_kindBehind_21 : decode cX4_kindBehind 21 = .ok (.getfield 24, 3) := by decide +kernel
theorem dX4_kindBehind_24 : decode cX4_kindBehind 24 = .ok (.iload_n 3, 1) := by decide +kernel
theorem dX4_kindBehind_25 : decode cX4_kindBehind 25 = .ok (.iaload, 1) := by decide +kernel
theorem dX4_kindBehind_26 : decode cX4_kindBehind 26 = .ok (.iload_n 2, 1) := by decide +kernel
theorem dX4_kindBehind_27 : decode cX4_kindBehind 27 = .ok (.if_icmp .ne 5, 3) := by decide +kernel
theorem dX4_kindBehind_30 : decode cX4_kindBehind 30 = .ok (.iload_n 3, 1) := by decide +kernel
theorem dX4_kindBehind_31 : decode cX4_kindBehind 31 = .ok (.ireturn, 1) := by decide +kernel
theorem dX4_kindBehind_32 : decode cX4_kindBehind 32 = .ok (.iinc 3 1, 3) := by decide +kernel
theorem dX4_kindBehind_35 : decode cX4_kindBehind 35 = .ok (.goto (-33), 3) := by decide +kernel
theorem dX4_kindBehind_38 : decode cX4_kindBehind 38 = .ok (.aload_n 0, 1) := by decide +kernel
theorem dX4_kindBehind_39 : decode cX4_kindBehind 39 = .ok (.getfield 52, 3) := by decide +kernel
theorem dX4_kindBehind_42 : decode cX4_kindBehind 42 = .ok (.aload_n 0, 1) := by decide +kernel
theorem dX4_kindBehind_43 : decode cX4_kindBehind 43 = .ok (.getfield 21, 3) := by decide +kernel
theorem dX4_kindBehind_46 : decode cX4_kindBehind 46 = .ok (.arraylength, 1) := by decide +kernel
theorem dX4_kindBehind_47 : decode cX4_kindBehind 47 = .ok (.if_icmp .ge 33, 3) := by decide +kernel
theorem dX4_kindBehind_50 : decode cX4_kindBehind 50 = .ok (.aload_n 0, 1) := by decide +kernel
theorem dX4_kindBehind_51 : decode cX4_kindBehind 51 = .ok (.getfield 21, 3) := by decide +kernel
theorem dX4_kindBehind_54 : decode cX4_kindBehind 54 = .ok (.aload_n 0, 1) := by decide +kernel
theorem dX4_kindBehind_55 : decode cX4_kindBehind 55 = .ok (.getfield 52, 3) := by decide +kernel
theorem dX4_kindBehind_58 : decode cX4_kindBehind 58 = .ok (.iload_n 1, 1) := by decide +kernel
theorem dX4_kindBehind_59 : decode cX4_kindBehind 59 = .ok (.iastore, 1) := by decide +kernel
theorem dX4_kindBehind_60 : decode cX4_kindBehind 60 = .ok (.aload_n 0, 1) := by decide +kernel
theorem dX4_kindBehind_61 : decode cX4_kindBehind 61 = .ok (.getfield 24, 3) := by decide +kernel
theorem dX4_kindBehind_64 : decode cX4_kindBehind 64 = .ok (.aload_n 0, 1) := by decide +kernel
theorem dX4_kindBehind_65 : decode cX4_kindBehind 65 = .ok (.getfield 52, 3) := by decide +kernel
theorem dX4_kindBehind_68 : decode cX4_kindBehind 68 = .ok (.iload_n 2, 1) := by decide +kernel
theorem dX4_kindBehind_69 : decode cX4_kindBehind 69 = .ok (.iastore, 1) := by decide +kernel
theorem dX4_kindBehind_70 : decode cX4_kindBehind 70 = .ok (.aload_n 0, 1) := by decide +kernel
theorem dX4_kindBehind_71 : decode cX4_kindBehind 71 = .ok (.dup, 1) := by decide +kernel
theorem dX4_kindBehind_72 : decode cX4_kindBehind 72 = .ok (.getfield 52, 3) := by decide +kernel
theorem dX4_kindBehind_75 : decode cX4_kindBehind 75 = .ok (.iconst 1, 1) := by decide +kernel
theorem dX4_kindBehind_76 : decode cX4_kindBehind 76 = .ok (.iadd, 1) := by decide +kernel
theorem dX4_kindBehind_77 : decode cX4_kindBehind 77 = .ok (.putfield 52, 3) := by decide +kernel
theorem dX4_kindBehind_80 : decode cX4_kindBehind 80 = .ok (.aload_n 0, 1) := by decide +kernel
theorem dX4_kindBehind_81 : decode cX4_kindBehind 81 = .ok (.getfield 52, 3) := by decide +kernel
theorem dX4_kindBehind_84 : decode cX4_kindBehind 84 = .ok (.iconst 1, 1) := by decide +kernel
theorem dX4_kindBehind_85 : decode cX4_kindBehind 85 = .ok (.isub, 1) := by decide +kernel
theorem dX4_kindBehind_86 : decode cX4_kindBehind 86 = .ok (.ireturn, 1) := by decide +kernel
theorem dX4_searchRow_0 : decode cX4_searchRow 0 = .ok (.iconst 0, 1) := by decide +kernel
theorem dX4_searchRow_1 : decode cX4_searchRow 1 = .ok (.istore_n 1, 1) := by decide +kernel
theorem dX4_searchRow_2 : decode cX4_searchRow 2 = .ok (.iconst 0, 1) := by decide +kernel
theorem dX4_searchRow_3 : decode cX4_searchRow 3 = .ok (.istore_n 2, 1) := by decide +kernel
theorem dX4_searchRow_4 : decode cX4_searchRow 4 = .ok (.aload_n 0, 1) := by decide +kernel
theorem dX4_searchRow_5 : decode cX4_searchRow 5 = .ok (.getfield 11, 3) := by decide +kernel
theorem dX4_searchRow_8 : decode cX4_searchRow 8 = .ok (.iconst 0, 1) := by decide +kernel
theorem dX4_searchRow_9 : decode cX4_searchRow 9 = .ok (.iconst (-1), 1) := by decide +kernel
theorem dX4_searchRow_10 : decode cX4_searchRow 10 = .ok (.iastore, 1) := by decide +kernel
theorem dX4_searchRow_11 : decode cX4_searchRow 11 = .ok (.iconst 0, 1) := by decide +kernel
theorem dX4_searchRow_12 : decode cX4_searchRow 12 = .ok (.istore_n 3, 1) := by decide +kernel
theorem dX4_searchRow_13 : decode cX4_searchRow 13 = .ok (.iload_n 3, 1) := by decide +kernel
theorem dX4_searchRow_14 : decode cX4_searchRow 14 = .ok (.ldc 86, 2) := by decide +kernel
theorem dX4_searchRow_16 : decode cX4_searchRow 16 = .ok (.if_icmp .ge 109, 3) := by decide +kernel
theorem dX4_searchRow_19 : decode cX4_searchRow 19 = .ok (.iload_n 1, 1) := by decide +kernel
theorem dX4_searchRow_20 : decode cX4_searchRow 20 = .ok (.ifCond .lt 105, 3) := by decide +kernel
theorem dX4_searchRow_23 : decode cX4_searchRow 23 = .ok (.iload_n 1, 1) := by decide +kernel
theorem dX4_searchRow_24 : decode cX4_searchRow 24 = .ok (.aload_n 0, 1) := by decide +kernel
theorem dX4_searchRow_25 : decode cX4_searchRow 25 = .ok (.getfield 51, 3) := by decide +kernel
theorem dX4_searchRow_28 : decode cX4_searchRow 28 = .ok (.if_icmp .ge 97, 3) := by decide +kernel
theorem dX4_searchRow_31 : decode cX4_searchRow 31 = .ok (.aload_n 0, 1) := by decide +kernel
theorem dX4_searchRow_32 : decode cX4_searchRow 32 = .ok (.getfield 11, 3) := by decide +kernel
theorem dX4_searchRow_35 : decode cX4_searchRow 35 = .ok (.iload_n 1, 1) := by decide +kernel
theorem dX4_searchRow_36 : decode cX4_searchRow 36 = .ok (.iaload, 1) := by decide +kernel
theorem dX4_searchRow_37 : decode cX4_searchRow 37 = .ok (.iconst (-1), 1) := by decide +kernel
theorem dX4_searchRow_38 : decode cX4_searchRow 38 = .ok (.if_icmp .eq 16, 3) := by decide +kernel
theorem dX4_searchRow_41 : decode cX4_searchRow 41 = .ok (.iload_n 2, 1) := by decide +kernel
theorem dX4_searchRow_42 : decode cX4_searchRow 42 = .ok (.iconst 1, 1) := by decide +kernel
theorem dX4_searchRow_43 : decode cX4_searchRow 43 = .ok (.aload_n 0, 1) := by decide +kernel
theorem dX4_searchRow_44 : decode cX4_searchRow 44 = .ok (.getfield 11, 3) := by decide +kernel
theorem dX4_searchRow_47 : decode cX4_searchRow 47 = .ok (.iload_n 1, 1) := by decide +kernel
theorem dX4_searchRow_48 : decode cX4_searchRow 48 = .ok (.iaload, 1) := by decide +kernel
theorem dX4_searchRow_49 : decode cX4_searchRow 49 = .ok (.ishl, 1) := by decide +kernel
theorem dX4_searchRow_50 : decode cX4_searchRow 50 = .ok (.iconst (-1), 1) := by decide +kernel
theorem dX4_searchRow_51 : decode cX4_searchRow 51 = .ok (.ixor, 1) := by decide +kernel
theorem dX4_searchRow_52 : decode cX4_searchRow 52 = .ok (.iand, 1) := by decide +kernel
theorem dX4_searchRow_53 : decode cX4_searchRow 53 = .ok (.istore_n 2, 1) := by decide +kernel
theorem dX4_searchRow_54 : decode cX4_searchRow 54 = .ok (.aload_n 0, 1) := by decide +kernel
theorem dX4_searchRow_55 : decode cX4_searchRow 55 = .ok (.getfield 11, 3) := by decide +kernel
theorem dX4_searchRow_58 : decode cX4_searchRow 58 = .ok (.iload_n 1, 1) := by decide +kernel
theorem dX4_searchRow_59 : decode cX4_searchRow 59 = .ok (.aload_n 0, 1) := by decide +kernel
theorem dX4_searchRow_60 : decode cX4_searchRow 60 = .ok (.iload_n 1, 1) := by decide +kernel
theorem dX4_searchRow_61 : decode cX4_searchRow 61 = .ok (.aload_n 0, 1) := by decide +kernel
theorem dX4_searchRow_62 : decode cX4_searchRow 62 = .ok (.getfield 11, 3) := by decide +kernel
theorem dX4_searchRow_65 : decode cX4_searchRow 65 = .ok (.iload_n 1, 1) := by decide +kernel
theorem dX4_searchRow_66 : decode cX4_searchRow 66 = .ok (.iaload, 1) := by decide +kernel
theorem dX4_searchRow_67 : decode cX4_searchRow 67 = .ok (.iconst 1, 1) := by decide +kernel
theorem dX4_searchRow_68 : decode cX4_searchRow 68 = .ok (.iadd, 1) := by decide +kernel
theorem dX4_searchRow_69 : decode cX4_searchRow 69 = .ok (.iload_n 2, 1) := by decide +kernel
theorem dX4_searchRow_70 : decode cX4_searchRow 70 = .ok (.invokevirtual 87, 3) := by decide +kernel
theorem dX4_searchRow_73 : decode cX4_searchRow 73 = .ok (.iastore, 1) := by decide +kernel
theorem dX4_searchRow_74 : decode cX4_searchRow 74 = .ok (.aload_n 0, 1) := by decide +kernel
theorem dX4_searchRow_75 : decode cX4_searchRow 75 = .ok (.getfield 11, 3) := by decide +kernel
theorem dX4_searchRow_78 : decode cX4_searchRow 78 = .ok (.iload_n 1, 1) := by decide +kernel
theorem dX4_searchRow_79 : decode cX4_searchRow 79 = .ok (.iaload, 1) := by decide +kernel
theorem dX4_searchRow_80 : decode cX4_searchRow 80 = .ok (.iconst (-1), 1) := by decide +kernel
theorem dX4_searchRow_81 : decode cX4_searchRow 81 = .ok (.if_icmp .ne 9, 3) := by decide +kernel
theorem dX4_searchRow_84 : decode cX4_searchRow 84 = .ok (.iinc 1 (-1), 3) := by decide +kernel
theorem dX4_searchRow_87 : decode cX4_searchRow 87 = .ok (.goto 32, 3) := by decide +kernel
theorem dX4_searchRow_90 : decode cX4_searchRow 90 = .ok (.iload_n 2, 1) := by decide +kernel
theorem dX4_searchRow_91 : decode cX4_searchRow 91 = .ok (.iconst 1, 1) := by decide +kernel
theorem dX4_searchRow_92 : decode cX4_searchRow 92 = .ok (.aload_n 0, 1) := by decide +kernel
theorem dX4_searchRow_93 : decode cX4_searchRow 93 = .ok (.getfield 11, 3) := by decide +kernel
theorem dX4_searchRow_96 : decode cX4_searchRow 96 = .ok (.iload_n 1, 1) := by decide +kernel
theorem dX4_searchRow_97 : decode cX4_searchRow 97 = .ok (.iaload, 1) := by decide +kernel
theorem dX4_searchRow_98 : decode cX4_searchRow 98 = .ok (.ishl, 1) := by decide +kernel
theorem dX4_searchRow_99 : decode cX4_searchRow 99 = .ok (.ior, 1) := by decide +kernel
theorem dX4_searchRow_100 : decode cX4_searchRow 100 = .ok (.istore_n 2, 1) := by decide +kernel
theorem dX4_searchRow_101 : decode cX4_searchRow 101 = .ok (.iinc 1 1, 3) := by decide +kernel
theorem dX4_searchRow_104 : decode cX4_searchRow 104 = .ok (.iload_n 1, 1) := by decide +kernel
theorem dX4_searchRow_105 : decode cX4_searchRow 105 = .ok (.aload_n 0, 1) := by decide +kernel
theorem dX4_searchRow_106 : decode cX4_searchRow 106 = .ok (.getfield 51, 3) := by decide +kernel
theorem dX4_searchRow_109 : decode cX4_searchRow 109 = .ok (.if_icmp .ge 10, 3) := by decide +kernel
theorem dX4_searchRow_112 : decode cX4_searchRow 112 = .ok (.aload_n 0, 1) := by decide +kernel
theorem dX4_searchRow_113 : decode cX4_searchRow 113 = .ok (.getfield 11, 3) := by decide +kernel
theorem dX4_searchRow_116 : decode cX4_searchRow 116 = .ok (.iload_n 1, 1) := by decide +kernel
theorem dX4_searchRow_117 : decode cX4_searchRow 117 = .ok (.iconst (-1), 1) := by decide +kernel
theorem dX4_searchRow_118 : decode cX4_searchRow 118 = .ok (.iastore, 1) := by decide +kernel
theorem dX4_searchRow_119 : decode cX4_searchRow 119 = .ok (.iinc 3 1, 3) := by decide +kernel
theorem dX4_searchRow_122 : decode cX4_searchRow 122 = .ok (.goto (-109), 3) := by decide +kernel
theorem dX4_searchRow_125 : decode cX4_searchRow 125 = .ok (.iload_n 1, 1) := by decide +kernel
theorem dX4_searchRow_126 : decode cX4_searchRow 126 = .ok (.aload_n 0, 1) := by decide +kernel
theorem dX4_searchRow_127 : decode cX4_searchRow 127 = .ok (.getfield 51, 3) := by decide +kernel
theorem dX4_searchRow_130 : decode cX4_searchRow 130 = .ok (.if_icmp .ne 7, 3) := by decide +kernel
theorem dX4_searchRow_133 : decode cX4_searchRow 133 = .ok (.iconst 1, 1) := by decide +kernel
theorem dX4_searchRow_134 : decode cX4_searchRow 134 = .ok (.goto 4, 3) := by decide +kernel
theorem dX4_searchRow_137 : decode cX4_searchRow 137 = .ok (.iconst 0, 1) := by decide +kernel
theorem dX4_searchRow_138 : decode cX4_searchRow 138 = .ok (.ireturn, 1) := by decide +kernel
theorem dX4_nextFitting_0 : decode cX4_nextFitting 0 = .ok (.iload_n 2, 1) := by decide +kernel
theorem dX4_nextFitting_1 : decode cX4_nextFitting 1 = .ok (.istore 4, 2) := by decide +kernel
theorem dX4_nextFitting_3 : decode cX4_nextFitting 3 = .ok (.iload 4, 2) := by decide +kernel
theorem dX4_nextFitting_5 : decode cX4_nextFitting 5 = .ok (.aload_n 0, 1) := by decide +kernel
theorem dX4_nextFitting_6 : decode cX4_nextFitting 6 = .ok (.getfield 51, 3) := by decide +kernel
theorem dX4_nextFitting_9 : decode cX4_nextFitting 9 = .ok (.if_icmp .ge 31, 3) := by decide +kernel
theorem dX4_nextFitting_12 : decode cX4_nextFitting 12 = .ok (.iload_n 3, 1) := by decide +kernel
theorem dX4_nextFitting_13 : decode cX4_nextFitting 13 = .ok (.iconst 1, 1) := by decide +kernel
theorem dX4_nextFitting_14 : decode cX4_nextFitting 14 = .ok (.iload 4, 2) := by decide +kernel
theorem dX4_nextFitting_16 : decode cX4_nextFitting 16 = .ok (.ishl, 1) := by decide +kernel
theorem dX4_nextFitting_17 : decode cX4_nextFitting 17 = .ok (.iand, 1) := by decide +kernel
theorem dX4_nextFitting_18 : decode cX4_nextFitting 18 = .ok (.ifCond .ne 16, 3) := by decide +kernel
theorem dX4_nextFitting_21 : decode cX4_nextFitting 21 = .ok (.aload_n 0, 1) := by decide +kernel
theorem dX4_nextFitting_22 : decode cX4_nextFitting 22 = .ok (.iload_n 1, 1) := by decide +kernel
theorem dX4_nextFitting_23 : decode cX4_nextFitting 23 = .ok (.iload 4, 2) := by decide +kernel
theorem dX4_nextFitting_25 : decode cX4_nextFitting 25 = .ok (.invokevirtual 91, 3) := by decide +kernel
theorem dX4_nextFitting_28 : decode cX4_nextFitting 28 = .ok (.ifCond .eq 6, 3) := by decide +kernel
theorem dX4_nextFitting_31 : decode cX4_nextFitting 31 = .ok (.iload 4, 2) := by decide +kernel
theorem dX4_nextFitting_33 : decode cX4_nextFitting 33 = .ok (.ireturn, 1) := by decide +kernel
theorem dX4_nextFitting_34 : decode cX4_nextFitting 34 = .ok (.iinc 4 1, 3) := by decide +kernel
theorem dX4_nextFitting_37 : decode cX4_nextFitting 37 = .ok (.goto (-34), 3) := by decide +kernel
theorem dX4_nextFitting_40 : decode cX4_nextFitting 40 = .ok (.iconst (-1), 1) := by decide +kernel
theorem dX4_nextFitting_41 : decode cX4_nextFitting 41 = .ok (.ireturn, 1) := by decide +kernel
theorem dX4_fits_0 : decode cX4_fits 0 = .ok (.aload_n 0, 1) := by decide +kernel
theorem dX4_fits_1 : decode cX4_fits 1 = .ok (.getfield 15, 3) := by decide +kernel
theorem dX4_fits_4 : decode cX4_fits 4 = .ok (.iload_n 1, 1) := by decide +kernel
theorem dX4_fits_5 : decode cX4_fits 5 = .ok (.bipush 8, 2) := by decide +kernel
theorem dX4_fits_7 : decode cX4_fits 7 = .ok (.imul, 1) := by decide +kernel
theorem dX4_fits_8 : decode cX4_fits 8 = .ok (.iload_n 1, 1) := by decide +kernel
theorem dX4_fits_9 : decode cX4_fits 9 = .ok (.iadd, 1) := by decide +kernel
theorem dX4_fits_10 : decode cX4_fits 10 = .ok (.iaload, 1) := by decide +kernel
theorem dX4_fits_11 : decode cX4_fits 11 = .ok (.aload_n 0, 1) := by decide +kernel
theorem dX4_fits_12 : decode cX4_fits 12 = .ok (.getfield 18, 3) := by decide +kernel
theorem dX4_fits_15 : decode cX4_fits 15 = .ok (.iload_n 2, 1) := by decide +kernel
theorem dX4_fits_16 : decode cX4_fits 16 = .ok (.bipush 8, 2) := by decide +kernel
theorem dX4_fits_18 : decode cX4_fits 18 = .ok (.imul, 1) := by decide +kernel
theorem dX4_fits_19 : decode cX4_fits 19 = .ok (.iload_n 2, 1) := by decide +kernel
theorem dX4_fits_20 : decode cX4_fits 20 = .ok (.iadd, 1) := by decide +kernel
theorem dX4_fits_21 : decode cX4_fits 21 = .ok (.iaload, 1) := by decide +kernel
theorem dX4_fits_22 : decode cX4_fits 22 = .ok (.if_icmp .eq 5, 3) := by decide +kernel
theorem dX4_fits_25 : decode cX4_fits 25 = .ok (.iconst 0, 1) := by decide +kernel
theorem dX4_fits_26 : decode cX4_fits 26 = .ok (.ireturn, 1) := by decide +kernel
theorem dX4_fits_27 : decode cX4_fits 27 = .ok (.aload_n 0, 1) := by decide +kernel
theorem dX4_fits_28 : decode cX4_fits 28 = .ok (.getfield 33, 3) := by decide +kernel
theorem dX4_fits_31 : decode cX4_fits 31 = .ok (.getfield 95, 3) := by decide +kernel
theorem dX4_fits_34 : decode cX4_fits 34 = .ok (.iload_n 1, 1) := by decide +kernel
theorem dX4_fits_35 : decode cX4_fits 35 = .ok (.iaload, 1) := by decide +kernel
theorem dX4_fits_36 : decode cX4_fits 36 = .ok (.aload_n 0, 1) := by decide +kernel
theorem dX4_fits_37 : decode cX4_fits 37 = .ok (.getfield 37, 3) := by decide +kernel
theorem dX4_fits_40 : decode cX4_fits 40 = .ok (.getfield 95, 3) := by decide +kernel
theorem dX4_fits_43 : decode cX4_fits 43 = .ok (.iload_n 2, 1) := by decide +kernel
theorem dX4_fits_44 : decode cX4_fits 44 = .ok (.iaload, 1) := by decide +kernel
theorem dX4_fits_45 : decode cX4_fits 45 = .ok (.if_icmp .eq 5, 3) := by decide +kernel
theorem dX4_fits_48 : decode cX4_fits 48 = .ok (.iconst 0, 1) := by decide +kernel
theorem dX4_fits_49 : decode cX4_fits 49 = .ok (.ireturn, 1) := by decide +kernel
theorem dX4_fits_50 : decode cX4_fits 50 = .ok (.iconst 0, 1) := by decide +kernel
theorem dX4_fits_51 : decode cX4_fits 51 = .ok (.istore_n 3, 1) := by decide +kernel
theorem dX4_fits_52 : decode cX4_fits 52 = .ok (.iload_n 3, 1) := by decide +kernel
theorem dX4_fits_53 : decode cX4_fits 53 = .ok (.iload_n 1, 1) := by decide +kernel
theorem dX4_fits_54 : decode cX4_fits 54 = .ok (.if_icmp .ge 41, 3) := by decide +kernel
theorem dX4_fits_57 : decode cX4_fits 57 = .ok (.aload_n 0, 1) := by decide +kernel
theorem dX4_fits_58 : decode cX4_fits 58 = .ok (.getfield 15, 3) := by decide +kernel
theorem dX4_fits_61 : decode cX4_fits 61 = .ok (.iload_n 1, 1) := by decide +kernel
theorem dX4_fits_62 : decode cX4_fits 62 = .ok (.bipush 8, 2) := by decide +kernel
theorem dX4_fits_64 : decode cX4_fits 64 = .ok (.imul, 1) := by decide +kernel
theorem dX4_fits_65 : decode cX4_fits 65 = .ok (.iload_n 3, 1) := by decide +kernel
theorem dX4_fits_66 : decode cX4_fits 66 = .ok (.iadd, 1) := by decide +kernel
theorem dX4_fits_67 : decode cX4_fits 67 = .ok (.iaload, 1) := by decide +kernel
theorem dX4_fits_68 : decode cX4_fits 68 = .ok (.aload_n 0, 1) := by decide +kernel
theorem dX4_fits_69 : decode cX4_fits 69 = .ok (.getfield 18, 3) := by decide +kernel
theorem dX4_fits_72 : decode cX4_fits 72 = .ok (.iload_n 2, 1) := by decide +kernel
theorem dX4_fits_73 : decode cX4_fits 73 = .ok (.bipush 8, 2) := by decide +kernel
theorem dX4_fits_75 : decode cX4_fits 75 = .ok (.imul, 1) := by decide +kernel
theorem dX4_fits_76 : decode cX4_fits 76 = .ok (.aload_n 0, 1) := by decide +kernel
theorem dX4_fits_77 : decode cX4_fits 77 = .ok (.getfield 11, 3) := by decide +kernel
theorem dX4_fits_80 : decode cX4_fits 80 = .ok (.iload_n 3, 1) := by decide +kernel
theorem dX4_fits_81 : decode cX4_fits 81 = .ok (.iaload, 1) := by decide +kernel
theorem dX4_fits_82 : decode cX4_fits 82 = .ok (.iadd, 1) := by decide +kernel
theorem dX4_fits_83 : decode cX4_fits 83 = .ok (.iaload, 1) := by decide +kernel
theorem dX4_fits_84 : decode cX4_fits 84 = .ok (.if_icmp .eq 5, 3) := by decide +kernel
theorem dX4_fits_87 : decode cX4_fits 87 = .ok (.iconst 0, 1) := by decide +kernel
theorem dX4_fits_88 : decode cX4_fits 88 = .ok (.ireturn, 1) := by decide +kernel
theorem dX4_fits_89 : decode cX4_fits 89 = .ok (.iinc 3 1, 3) := by decide +kernel
theorem dX4_fits_92 : decode cX4_fits 92 = .ok (.goto (-40), 3) := by decide +kernel
theorem dX4_fits_95 : decode cX4_fits 95 = .ok (.iconst 1, 1) := by decide +kernel
theorem dX4_fits_96 : decode cX4_fits 96 = .ok (.ireturn, 1) := by decide +kernel
theorem dX5_init_0 : decode cX5_init 0 = .ok (.aload_n 0, 1) := by decide +kernel
theorem dX5_init_1 : decode cX5_init 1 = .ok (.invokespecial 3, 3) := by decide +kernel
theorem dX5_init_4 : decode cX5_init 4 = .ok (.aload_n 0, 1) := by decide +kernel
theorem dX5_init_5 : decode cX5_init 5 = .ok (.bipush 30, 2) := by decide +kernel
theorem dX5_init_7 : decode cX5_init 7 = .ok (.newarray .int, 2) := by decide +kernel
theorem dX5_init_9 : decode cX5_init 9 = .ok (.putfield 9, 3) := by decide +kernel
theorem dX5_init_12 : decode cX5_init 12 = .ok (.aload_n 0, 1) := by decide +kernel
theorem dX5_init_13 : decode cX5_init 13 = .ok (.bipush 30, 2) := by decide +kernel
theorem dX5_init_15 : decode cX5_init 15 = .ok (.newarray .int, 2) := by decide +kernel
theorem dX5_init_17 : decode cX5_init 17 = .ok (.putfield 15, 3) := by decide +kernel
theorem dX5_init_20 : decode cX5_init 20 = .ok (.aload_n 0, 1) := by decide +kernel
theorem dX5_init_21 : decode cX5_init 21 = .ok (.bipush 30, 2) := by decide +kernel
theorem dX5_init_23 : decode cX5_init 23 = .ok (.newarray .int, 2) := by decide +kernel
theorem dX5_init_25 : decode cX5_init 25 = .ok (.putfield 18, 3) := by decide +kernel
theorem dX5_init_28 : decode cX5_init 28 = .ok (.return_, 1) := by decide +kernel
theorem dX5_lostWith_0 : decode cX5_lostWith 0 = .ok (.aload_n 0, 1) := by decide +kernel
theorem dX5_lostWith_1 : decode cX5_lostWith 1 = .ok (.aload_n 1, 1) := by decide +kernel
theorem dX5_lostWith_2 : decode cX5_lostWith 2 = .ok (.iload_n 2, 1) := by decide +kernel
theorem dX5_lostWith_3 : decode cX5_lostWith 3 = .ok (.invokevirtual 21, 3) := by decide +kernel
theorem dX5_lostWith_6 : decode cX5_lostWith 6 = .ok (.iload_n 2, 1) := by decide +kernel
theorem dX5_lostWith_7 : decode cX5_lostWith 7 = .ok (.istore_n 3, 1) := by decide +kernel
theorem dX5_lostWith_8 : decode cX5_lostWith 8 = .ok (.iload_n 3, 1) := by decide +kernel
theorem dX5_lostWith_9 : decode cX5_lostWith 9 = .ok (.iconst (-1), 1) := by decide +kernel
theorem dX5_lostWith_10 : decode cX5_lostWith 10 = .ok (.ixor, 1) := by decide +kernel
theorem dX5_lostWith_11 : decode cX5_lostWith 11 = .ok (.istore 4, 2) := by decide +kernel
theorem dX5_lostWith_13 : decode cX5_lostWith 13 = .ok (.iconst 0, 1) := by decide +kernel
theorem dX5_lostWith_14 : decode cX5_lostWith 14 = .ok (.istore 5, 2) := by decide +kernel
theorem dX5_lostWith_16 : decode cX5_lostWith 16 = .ok (.iload 5, 2) := by decide +kernel
theorem dX5_lostWith_18 : decode cX5_lostWith 18 = .ok (.aload_n 1, 1) := by decide +kernel
theorem dX5_lostWith_19 : decode cX5_lostWith 19 = .ok (.getfield 25, 3) := by decide +kernel
theorem dX5_lostWith_22 : decode cX5_lostWith 22 = .ok (.if_icmp .gt 95, 3) := by decide +kernel
theorem dX5_lostWith_25 : decode cX5_lostWith 25 = .ok (.iload 4, 2) := by decide +kernel
theorem dX5_lostWith_27 : decode cX5_lostWith 27 = .ok (.iload_n 3, 1) := by decide +kernel
theorem dX5_lostWith_28 : decode cX5_lostWith 28 = .ok (.if_icmp .eq 89, 3) := by decide +kernel
theorem dX5_lostWith_31 : decode cX5_lostWith 31 = .ok (.iload_n 3, 1) := by decide +kernel
theorem dX5_lostWith_32 : decode cX5_lostWith 32 = .ok (.istore 4, 2) := by decide +kernel
theorem dX5_lostWith_34 : decode cX5_lostWith 34 = .ok (.iconst 0, 1) := by decide +kernel
theorem dX5_lostWith_35 : decode cX5_lostWith 35 = .ok (.istore 6, 2) := by decide +kernel
theorem dX5_lostWith_37 : decode cX5_lostWith 37 = .ok (.iload 6, 2) := by decide +kernel
theorem dX5_lostWith_39 : decode cX5_lostWith 39 = .ok (.aload_n 1, 1) := by decide +kernel
theorem dX5_lostWith_40 : decode cX5_lostWith 40 = .ok (.getfield 25, 3) := by decide +kernel
theorem dX5_lostWith_43 : decode cX5_lostWith 43 = .ok (.if_icmp .ge 68, 3) := by decide +kernel
theorem dX5_lostWith_46 : decode cX5_lostWith 46 = .ok (.iload_n 3, 1) := by decide +kernel
theorem dX5_lostWith_47 : decode cX5_lostWith 47 = .ok (.iconst 1, 1) := by decide +kernel
theorem dX5_lostWith_48 : decode cX5_lostWith 48 = .ok (.iload 6, 2) := by decide +kernel
theorem dX5_lostWith_50 : decode cX5_lostWith 50 = .ok (.ishl, 1) := by decide +kernel
theorem dX5_lostWith_51 : decode cX5_lostWith 51 = .ok (.iand, 1) := by decide +kernel
theorem dX5_lostWith_52 : decode cX5_lostWith 52 = .ok (.ifCond .ne 53, 3) := by decide +kernel
theorem dX5_lostWith_55 : decode cX5_lostWith 55 = .ok (.aload_n 0, 1) := by decide +kernel
theorem dX5_lostWith_56 : decode cX5_lostWith 56 = .ok (.aload_n 1, 1) := by decide +kernel
theorem dX5_lostWith_57 : decode cX5_lostWith 57 = .ok (.iload 6, 2) := by decide +kernel
theorem dX5_lostWith_59 : decode cX5_lostWith 59 = .ok (.iload_n 3, 1) := by decide +kernel
theorem dX5_lostWith_60 : decode cX5_lostWith 60 = .ok (.invokevirtual 31, 3) := by decide +kernel
theorem dX5_lostWith_63 : decode cX5_lostWith 63 = .ok (.ifCond .eq 42, 3) := by decide +kernel
theorem dX5_lostWith_66 : decode cX5_lostWith 66 = .ok (.iload_n 3, 1) := by decide +kernel
theorem dX5_lostWith_67 : decode cX5_lostWith 67 = .ok (.iconst 1, 1) := by decide +kernel
theorem dX5_lostWith_68 : decode cX5_lostWith 68 = .ok (.iload 6, 2) := by decide +kernel
theorem dX5_lostWith_70 : decode cX5_lostWith 70 = .ok (.ishl, 1) := by decide +kernel
theorem dX5_lostWith_71 : decode cX5_lostWith 71 = .ok (.ior, 1) := by decide +kernel
theorem dX5_lostWith_72 : decode cX5_lostWith 72 = .ok (.istore_n 3, 1) := by decide +kernel
theorem dX5_lostWith_73 : decode cX5_lostWith 73 = .ok (.aload_n 0, 1) := by decide +kernel
theorem dX5_lostWith_74 : decode cX5_lostWith 74 = .ok (.getfield 15, 3) := by decide +kernel
theorem dX5_lostWith_77 : decode cX5_lostWith 77 = .ok (.aload_n 1, 1) := by decide +kernel
theorem dX5_lostWith_78 : decode cX5_lostWith 78 = .ok (.getfield 35, 3) := by decide +kernel
theorem dX5_lostWith_81 : decode cX5_lostWith 81 = .ok (.iload 6, 2) := by decide +kernel
theorem dX5_lostWith_83 : decode cX5_lostWith 83 = .ok (.iaload, 1) := by decide +kernel
theorem dX5_lostWith_84 : decode cX5_lostWith 84 = .ok (.dup2, 1) := by decide +kernel
theorem dX5_lostWith_85 : decode cX5_lostWith 85 = .ok (.iaload, 1) := by decide +kernel
theorem dX5_lostWith_86 : decode cX5_lostWith 86 = .ok (.iconst 1, 1) := by decide +kernel
theorem dX5_lostWith_87 : decode cX5_lostWith 87 = .ok (.isub, 1) := by decide +kernel
theorem dX5_lostWith_88 : decode cX5_lostWith 88 = .ok (.iastore, 1) := by decide +kernel
theorem dX5_lostWith_89 : decode cX5_lostWith 89 = .ok (.aload_n 0, 1) := by decide +kernel
theorem dX5_lostWith_90 : decode cX5_lostWith 90 = .ok (.getfield 15, 3) := by decide +kernel
theorem dX5_lostWith_93 : decode cX5_lostWith 93 = .ok (.aload_n 1, 1) := by decide +kernel
theorem dX5_lostWith_94 : decode cX5_lostWith 94 = .ok (.getfield 38, 3) := by decide +kernel
theorem dX5_lostWith_97 : decode cX5_lostWith 97 = .ok (.iload 6, 2) := by decide +kernel
theorem dX5_lostWith_99 : decode cX5_lostWith 99 = .ok (.iaload, 1) := by decide +kernel
theorem dX5_lostWith_100 : decode cX5_lostWith 100 = .ok (.dup2, 1) := by decide +kernel
theorem dX5_lostWith_101 : decode cX5_lostWith 101 = .ok (.iaload, 1) := by decide +kernel
theorem dX5_lostWith_102 : decode cX5_lostWith 102 = .ok (.iconst 1, 1) := by decide +kernel
theorem dX5_lostWith_103 : decode cX5_lostWith 103 = .ok (.isub, 1) := by decide +kernel
theorem dX5_lostWith_104 : decode cX5_lostWith 104 = .ok (.iastore, 1) := by decide +kernel
theorem dX5_lostWith_105 : decode cX5_lostWith 105 = .ok (.iinc 6 1, 3) := by decide +kernel
theorem dX5_lostWith_108 : decode cX5_lostWith 108 = .ok (.goto (-71), 3) := by decide +kernel
theorem dX5_lostWith_111 : decode cX5_lostWith 111 = .ok (.iinc 5 1, 3) := by decide +kernel
theorem dX5_lostWith_114 : decode cX5_lostWith 114 = .ok (.goto (-98), 3) := by decide +kernel
theorem dX5_lostWith_117 : decode cX5_lostWith 117 = .ok (.iload_n 3, 1) := by decide +kernel
theorem dX5_lostWith_118 : decode cX5_lostWith 118 = .ok (.ireturn, 1) := by decide +kernel
theorem dX5_hangsLoose_0 : decode cX5_hangsLoose 0 = .ok (.iload_n 2, 1) := by decide +kernel
theorem dX5_hangsLoose_1 : decode cX5_hangsLoose 1 = .ok (.ifCond .le 27, 3) := by decide +kernel
theorem dX5_hangsLoose_4 : decode cX5_hangsLoose 4 = .ok (.aload_n 1, 1) := by decide +kernel
theorem dX5_hangsLoose_5 : decode cX5_hangsLoose 5 = .ok (.iload_n 2, 1) := by decide +kernel
theorem dX5_hangsLoose_6 : decode cX5_hangsLoose 6 = .ok (.iconst 1, 1) := by decide +kernel
theorem dX5_hangsLoose_7 : decode cX5_hangsLoose 7 = .ok (.isub, 1) := by decide +kernel
theorem dX5_hangsLoose_8 : decode cX5_hangsLoose 8 = .ok (.invokevirtual 41, 3) := by decide +kernel
theorem dX5_hangsLoose_11 : decode cX5_hangsLoose 11 = .ok (.ifCond .eq 17, 3) := by decide +kernel
theorem dX5_hangsLoose_14 : decode cX5_hangsLoose 14 = .ok (.iload_n 3, 1) := by decide +kernel
theorem dX5_hangsLoose_15 : decode cX5_hangsLoose 15 = .ok (.iconst 1, 1) := by decide +kernel
theorem dX5_hangsLoose_16 : decode cX5_hangsLoose 16 = .ok (.iload_n 2, 1) := by decide +kernel
theorem dX5_hangsLoose_17 : decode cX5_hangsLoose 17 = .ok (.iconst 1, 1) := by decide +kernel
theorem dX5_hangsLoose_18 : decode cX5_hangsLoose 18 = .ok (.isub, 1) := by decide +kernel
theorem dX5_hangsLoose_19 : decode cX5_hangsLoose 19 = .ok (.ishl, 1) := by decide +kernel
theorem dX5_hangsLoose_20 : decode cX5_hangsLoose 20 = .ok (.iand, 1) := by decide +kernel
theorem dX5_hangsLoose_21 : decode cX5_hangsLoose 21 = .ok (.ifCond .eq 7, 3) := by decide +kernel
theorem dX5_hangsLoose_24 : decode cX5_hangsLoose 24 = .ok (.iconst 1, 1) := by decide +kernel
theorem dX5_hangsLoose_25 : decode cX5_hangsLoose 25 = .ok (.goto 4, 3) := by decide +kernel
theorem dX5_hangsLoose_28 : decode cX5_hangsLoose 28 = .ok (.iconst 0, 1) := by decide +kernel
theorem dX5_hangsLoose_29 : decode cX5_hangsLoose 29 = .ok (.istore 4, 2) := by decide +kernel
theorem dX5_hangsLoose_31 : decode cX5_hangsLoose 31 = .ok (.iload 4, 2) := by decide +kernel
theorem dX5_hangsLoose_33 : decode cX5_hangsLoose 33 = .ok (.ifCond .eq 20, 3) := by decide +kernel
theorem dX5_hangsLoose_36 : decode cX5_hangsLoose 36 = .ok (.aload_n 0, 1) := by decide +kernel
theorem dX5_hangsLoose_37 : decode cX5_hangsLoose 37 = .ok (.getfield 15, 3) := by decide +kernel
theorem dX5_hangsLoose_40 : decode cX5_hangsLoose 40 = .ok (.aload_n 1, 1) := by decide +kernel
theorem dX5_hangsLoose_41 : decode cX5_hangsLoose 41 = .ok (.getfield 35, 3) := by decide +kernel
theorem dX5_hangsLoose_44 : decode cX5_hangsLoose 44 = .ok (.iload_n 2, 1) := by decide +kernel
theorem dX5_hangsLoose_45 : decode cX5_hangsLoose 45 = .ok (.iaload, 1) := by decide +kernel
theorem dX5_hangsLoose_46 : decode cX5_hangsLoose 46 = .ok (.iaload, 1) := by decide +kernel
theorem dX5_hangsLoose_47 : decode cX5_hangsLoose 47 = .ok (.iconst 3, 1) := by decide +kernel
theorem dX5_hangsLoose_48 : decode cX5_hangsLoose 48 = .ok (.if_icmp .ge 5, 3) := by decide +kernel
theorem dX5_hangsLoose_51 : decode cX5_hangsLoose 51 = .ok (.iconst 1, 1) := by decide +kernel
theorem dX5_hangsLoose_52 : decode cX5_hangsLoose 52 = .ok (.ireturn, 1) := by decide +kernel
theorem dX5_hangsLoose_53 : decode cX5_hangsLoose 53 = .ok (.aload_n 1, 1) := by decide +kernel
theorem dX5_hangsLoose_54 : decode cX5_hangsLoose 54 = .ok (.iload_n 2, 1) := by decide +kernel
theorem dX5_hangsLoose_55 : decode cX5_hangsLoose 55 = .ok (.invokevirtual 41, 3) := by decide +kernel
theorem dX5_hangsLoose_58 : decode cX5_hangsLoose 58 = .ok (.ifCond .eq 17, 3) := by decide +kernel
theorem dX5_hangsLoose_61 : decode cX5_hangsLoose 61 = .ok (.iload_n 3, 1) := by decide +kernel
theorem dX5_hangsLoose_62 : decode cX5_hangsLoose 62 = .ok (.iconst 1, 1) := by decide +kernel
theorem dX5_hangsLoose_63 : decode cX5_hangsLoose 63 = .ok (.iload_n 2, 1) := by decide +kernel
theorem dX5_hangsLoose_64 : decode cX5_hangsLoose 64 = .ok (.iconst 1, 1) := by decide +kernel
theorem dX5_hangsLoose_65 : decode cX5_hangsLoose 65 = .ok (.iadd, 1) := by decide +kernel
theorem dX5_hangsLoose_66 : decode cX5_hangsLoose 66 = .ok (.ishl, 1) := by decide +kernel
theorem dX5_hangsLoose_67 : decode cX5_hangsLoose 67 = .ok (.iand, 1) := by decide +kernel
theorem dX5_hangsLoose_68 : decode cX5_hangsLoose 68 = .ok (.ifCond .eq 7, 3) := by decide +kernel
theorem dX5_hangsLoose_71 : decode cX5_hangsLoose 71 = .ok (.iconst 1, 1) := by decide +kernel
theorem dX5_hangsLoose_72 : decode cX5_hangsLoose 72 = .ok (.goto 4, 3) := by decide +kernel
theorem dX5_hangsLoose_75 : decode cX5_hangsLoose 75 = .ok (.iconst 0, 1) := by decide +kernel
theorem dX5_hangsLoose_76 : decode cX5_hangsLoose 76 = .ok (.istore 5, 2) := by decide +kernel
theorem dX5_hangsLoose_78 : decode cX5_hangsLoose 78 = .ok (.iload 5, 2) := by decide +kernel
theorem dX5_hangsLoose_80 : decode cX5_hangsLoose 80 = .ok (.ifCond .eq 22, 3) := by decide +kernel
theorem dX5_hangsLoose_83 : decode cX5_hangsLoose 83 = .ok (.aload_n 0, 1) := by decide +kernel
theorem dX5_hangsLoose_84 : decode cX5_hangsLoose 84 = .ok (.getfield 15, 3) := by decide +kernel
theorem dX5_hangsLoose_87 : decode cX5_hangsLoose 87 = .ok (.aload_n 1, 1) := by decide +kernel
theorem dX5_hangsLoose_88 : decode cX5_hangsLoose 88 = .ok (.getfield 38, 3) := by decide +kernel
theorem dX5_hangsLoose_91 : decode cX5_hangsLoose 91 = .ok (.iload_n 2, 1) := by decide +kernel
theorem dX5_hangsLoose_92 : decode cX5_hangsLoose 92 = .ok (.iaload, 1) := by decide +kernel
theorem dX5_hangsLoose_93 : decode cX5_hangsLoose 93 = .ok (.iaload, 1) := by decide +kernel
theorem dX5_hangsLoose_94 : decode cX5_hangsLoose 94 = .ok (.iconst 3, 1) := by decide +kernel
theorem dX5_hangsLoose_95 : decode cX5_hangsLoose 95 = .ok (.if_icmp .ge 7, 3) := by decide +kernel
theorem dX5_hangsLoose_98 : decode cX5_hangsLoose 98 = .ok (.iconst 1, 1) := by decide +kernel
theorem dX5_hangsLoose_99 : decode cX5_hangsLoose 99 = .ok (.goto 4, 3) := by decide +kernel
theorem dX5_hangsLoose_102 : decode cX5_hangsLoose 102 = .ok (.iconst 0, 1) := by decide +kernel
theorem dX5_hangsLoose_103 : decode cX5_hangsLoose 103 = .ok (.ireturn, 1) := by decide +kernel
theorem dX5_countLive_0 : decode cX5_countLive 0 = .ok (.aload_n 0, 1) := by decide +kernel
theorem dX5_countLive_1 : decode cX5_countLive 1 = .ok (.getfield 15, 3) := by decide +kernel
theorem dX5_countLive_4 : decode cX5_countLive 4 = .ok (.iconst 0, 1) := by decide +kernel
theorem dX5_countLive_5 : decode cX5_countLive 5 = .ok (.invokestatic 45, 3) := by decide +kernel
theorem dX5_countLive_8 : decode cX5_countLive 8 = .ok (.iconst 0, 1) := by decide +kernel
theorem dX5_countLive_9 : decode cX5_countLive 9 = .ok (.istore_n 3, 1) := by decide +kernel
theorem dX5_countLive_10 : decode cX5_countLive 10 = .ok (.iload_n 3, 1) := by decide +kernel
theorem dX5_countLive_11 : decode cX5_countLive 11 = .ok (.aload_n 1, 1) := by decide +kernel
theorem dX5_countLive_12 : decode cX5_countLive 12 = .ok (.getfield 25, 3) := by decide +kernel
theorem dX5_countLive_15 : decode cX5_countLive 15 = .ok (.if_icmp .ge 47, 3) := by decide +kernel
theorem dX5_countLive_18 : decode cX5_countLive 18 = .ok (.iload_n 2, 1) := by decide +kernel
theorem dX5_countLive_19 : decode cX5_countLive 19 = .ok (.iconst 1, 1) := by decide +kernel
theorem dX5_countLive_20 : decode cX5_countLive 20 = .ok (.iload_n 3, 1) := by decide +kernel
theorem dX5_countLive_21 : decode cX5_countLive 21 = .ok (.ishl, 1) := by decide +kernel
theorem dX5_countLive_22 : decode cX5_countLive 22 = .ok (.iand, 1) := by decide +kernel
theorem dX5_countLive_23 : decode cX5_countLive 23 = .ok (.ifCond .ne 33, 3) := by decide +kernel
theorem dX5_countLive_26 : decode cX5_countLive 26 = .ok (.aload_n 0, 1) := by decide +kernel
theorem dX5_countLive_27 : decode cX5_countLive 27 = .ok (.getfield 15, 3) := by decide +kernel
theorem dX5_countLive_30 : decode cX5_countLive 30 = .ok (.aload_n 1, 1) := by decide +kernel
theorem dX5_countLive_31 : decode cX5_countLive 31 = .ok (.getfield 35, 3) := by decide +kernel
theorem dX5_countLive_34 : decode cX5_countLive 34 = .ok (.iload_n 3, 1) := by decide +kernel
theorem dX5_countLive_35 : decode cX5_countLive 35 = .ok (.iaload, 1) := by decide +kernel
theorem dX5_countLive_36 : decode cX5_countLive 36 = .ok (.dup2, 1) := by decide +kernel
theorem dX5_countLive_37 : decode cX5_countLive 37 = .ok (.iaload, 1) := by decide +kernel
theorem dX5_countLive_38 : decode cX5_countLive 38 = .ok (.iconst 1, 1) := by decide +kernel
theorem dX5_countLive_39 : decode cX5_countLive 39 = .ok (.iadd, 1) := by decide +kernel
theorem dX5_countLive_40 : decode cX5_countLive 40 = .ok (.iastore, 1) := by decide +kernel
theorem dX5_countLive_41 : decode cX5_countLive 41 = .ok (.aload_n 0, 1) := by decide +kernel
theorem dX5_countLive_42 : decode cX5_countLive 42 = .ok (.getfield 15, 3) := by decide +kernel
theorem dX5_countLive_45 : decode cX5_countLive 45 = .ok (.aload_n 1, 1) := by decide +kernel
theorem dX5_countLive_46 : decode cX5_countLive 46 = .ok (.getfield 38, 3) := by decide +kernel
theorem dX5_countLive_49 : decode cX5_countLive 49 = .ok (.iload_n 3, 1) := by decide +kernel
theorem dX5_countLive_50 : decode cX5_countLive 50 = .ok (.iaload, 1) := by decide +kernel
theorem dX5_countLive_51 : decode cX5_countLive 51 = .ok (.dup2, 1) := by decide +kernel
theorem dX5_countLive_52 : decode cX5_countLive 52 = .ok (.iaload, 1) := by decide +kernel
theorem dX5_countLive_53 : decode cX5_countLive 53 = .ok (.iconst 1, 1) := by decide +kernel
theorem dX5_countLive_54 : decode cX5_countLive 54 = .ok (.iadd, 1) := by decide +kernel
theorem dX5_countLive_55 : decode cX5_countLive 55 = .ok (.iastore, 1) := by decide +kernel
theorem dX5_countLive_56 : decode cX5_countLive 56 = .ok (.iinc 3 1, 3) := by decide +kernel
theorem dX5_countLive_59 : decode cX5_countLive 59 = .ok (.goto (-49), 3) := by decide +kernel
theorem dX5_countLive_62 : decode cX5_countLive 62 = .ok (.return_, 1) := by decide +kernel
theorem dX5_liveEndsOf_0 : decode cX5_liveEndsOf 0 = .ok (.aload_n 0, 1) := by decide +kernel
theorem dX5_liveEndsOf_1 : decode cX5_liveEndsOf 1 = .ok (.getfield 15, 3) := by decide +kernel
theorem dX5_liveEndsOf_4 : decode cX5_liveEndsOf 4 = .ok (.aload_n 1, 1) := by decide +kernel
theorem dX5_liveEndsOf_5 : decode cX5_liveEndsOf 5 = .ok (.getfield 35, 3) := by decide +kernel
theorem dX5_liveEndsOf_8 : decode cX5_liveEndsOf 8 = .ok (.iload_n 2, 1) := by decide +kernel
theorem dX5_liveEndsOf_9 : decode cX5_liveEndsOf 9 = .ok (.iaload, 1) := by decide +kernel
theorem dX5_liveEndsOf_10 : decode cX5_liveEndsOf 10 = .ok (.iaload, 1) := by decide +kernel
theorem dX5_liveEndsOf_11 : decode cX5_liveEndsOf 11 = .ok (.aload_n 0, 1) := by decide +kernel
theorem dX5_liveEndsOf_12 : decode cX5_liveEndsOf 12 = .ok (.getfield 15, 3) := by decide +kernel
theorem dX5_liveEndsOf_15 : decode cX5_liveEndsOf 15 = .ok (.aload_n 1, 1) := by decide +kernel
theorem dX5_liveEndsOf_16 : decode cX5_liveEndsOf 16 = .ok (.getfield 38, 3) := by decide +kernel
theorem dX5_liveEndsOf_19 : decode cX5_liveEndsOf 19 = .ok (.iload_n 2, 1) := by decide +kernel
theorem dX5_liveEndsOf_20 : decode cX5_liveEndsOf 20 = .ok (.iaload, 1) := by decide +kernel
theorem dX5_liveEndsOf_21 : decode cX5_liveEndsOf 21 = .ok (.iaload, 1) := by decide +kernel
theorem dX5_liveEndsOf_22 : decode cX5_liveEndsOf 22 = .ok (.iadd, 1) := by decide +kernel
theorem dX5_liveEndsOf_23 : decode cX5_liveEndsOf 23 = .ok (.ireturn, 1) := by decide +kernel
theorem dX5_weakestOf_0 : decode cX5_weakestOf 0 = .ok (.iconst (-1), 1) := by decide +kernel
theorem dX5_weakestOf_1 : decode cX5_weakestOf 1 = .ok (.istore_n 2, 1) := by decide +kernel
theorem dX5_weakestOf_2 : decode cX5_weakestOf 2 = .ok (.iconst 0, 1) := by decide +kernel
theorem dX5_weakestOf_3 : decode cX5_weakestOf 3 = .ok (.istore_n 3, 1) := by decide +kernel
theorem dX5_weakestOf_4 : decode cX5_weakestOf 4 = .ok (.iconst 0, 1) := by decide +kernel
theorem dX5_weakestOf_5 : decode cX5_weakestOf 5 = .ok (.istore 4, 2) := by decide +kernel
theorem dX5_weakestOf_7 : decode cX5_weakestOf 7 = .ok (.iload 4, 2) := by decide +kernel
theorem dX5_weakestOf_9 : decode cX5_weakestOf 9 = .ok (.aload_n 1, 1) := by decide +kernel
theorem dX5_weakestOf_10 : decode cX5_weakestOf 10 = .ok (.getfield 25, 3) := by decide +kernel
theorem dX5_weakestOf_13 : decode cX5_weakestOf 13 = .ok (.if_icmp .ge 35, 3) := by decide +kernel
theorem dX5_weakestOf_16 : decode cX5_weakestOf 16 = .ok (.aload_n 0, 1) := by decide +kernel
theorem dX5_weakestOf_17 : decode cX5_weakestOf 17 = .ok (.aload_n 1, 1) := by decide +kernel
theorem dX5_weakestOf_18 : decode cX5_weakestOf 18 = .ok (.iconst 1, 1) := by decide +kernel
theorem dX5_weakestOf_19 : decode cX5_weakestOf 19 = .ok (.iload 4, 2) := by decide +kernel
theorem dX5_weakestOf_21 : decode cX5_weakestOf 21 = .ok (.ishl, 1) := by decide +kernel
theorem dX5_weakestOf_22 : decode cX5_weakestOf 22 = .ok (.invokevirtual 51, 3) := by decide +kernel
theorem dX5_weakestOf_25 : decode cX5_weakestOf 25 = .ok (.invokestatic 55, 3) := by decide +kernel
theorem dX5_weakestOf_28 : decode cX5_weakestOf 28 = .ok (.istore 5, 2) := by decide +kernel
theorem dX5_weakestOf_30 : decode cX5_weakestOf 30 = .ok (.iload 5, 2) := by decide +kernel
theorem dX5_weakestOf_32 : decode cX5_weakestOf 32 = .ok (.iload_n 3, 1) := by decide +kernel
theorem dX5_weakestOf_33 : decode cX5_weakestOf 33 = .ok (.if_icmp .le 9, 3) := by decide +kernel
theorem dX5_weakestOf_36 : decode cX5_weakestOf 36 = .ok (.iload 5, 2) := by decide +kernel
theorem dX5_weakestOf_38 : decode cX5_weakestOf 38 = .ok (.istore_n 3, 1) := by decide +kernel
theorem dX5_weakestOf_39 : decode cX5_weakestOf 39 = .ok (.iload 4, 2) := by decide +kernel
theorem dX5_weakestOf_41 : decode cX5_weakestOf 41 = .ok (.istore_n 2, 1) := by decide +kernel
theorem dX5_weakestOf_42 : decode cX5_weakestOf 42 = .ok (.iinc 4 1, 3) := by decide +kernel
theorem dX5_weakestOf_45 : decode cX5_weakestOf 45 = .ok (.goto (-38), 3) := by decide +kernel
theorem dX5_weakestOf_48 : decode cX5_weakestOf 48 = .ok (.iload_n 2, 1) := by decide +kernel
theorem dX5_weakestOf_49 : decode cX5_weakestOf 49 = .ok (.ireturn, 1) := by decide +kernel
theorem dX5_parts_0 : decode cX5_parts 0 = .ok (.iconst 0, 1) := by decide +kernel
theorem dX5_parts_1 : decode cX5_parts 1 = .ok (.istore_n 3, 1) := by decide +kernel
theorem dX5_parts_2 : decode cX5_parts 2 = .ok (.aload_n 0, 1) := by decide +kernel
theorem dX5_parts_3 : decode cX5_parts 3 = .ok (.aload_n 1, 1) := by decide +kernel
theorem dX5_parts_4 : decode cX5_parts 4 = .ok (.iload_n 2, 1) := by decide +kernel
theorem dX5_parts_5 : decode cX5_parts 5 = .ok (.invokevirtual 21, 3) := by decide +kernel
theorem dX5_parts_8 : decode cX5_parts 8 = .ok (.iconst 0, 1) := by decide +kernel
theorem dX5_parts_9 : decode cX5_parts 9 = .ok (.istore 4, 2) := by decide +kernel
theorem dX5_parts_11 : decode cX5_parts 11 = .ok (.iload 4, 2) := by decide +kernel
theorem dX5_parts_13 : decode cX5_parts 13 = .ok (.aload_n 1, 1) := by decide +kernel
theorem dX5_parts_14 : decode cX5_parts 14 = .ok (.getfield 61, 3) := by decide +kernel
theorem dX5_parts_17 : decode cX5_parts 17 = .ok (.if_icmp .ge 36, 3) := by decide +kernel
theorem dX5_parts_20 : decode cX5_parts 20 = .ok (.aload_n 0, 1) := by decide +kernel
theorem dX5_parts_21 : decode cX5_parts 21 = .ok (.getfield 18, 3) := by decide +kernel
theorem dX5_parts_24 : decode cX5_parts 24 = .ok (.iload 4, 2) := by decide +kernel
theorem dX5_parts_26 : decode cX5_parts 26 = .ok (.iload 4, 2) := by decide +kernel
theorem dX5_parts_28 : decode cX5_parts 28 = .ok (.iastore, 1) := by decide +kernel
theorem dX5_parts_29 : decode cX5_parts 29 = .ok (.iload_n 3, 1) := by decide +kernel
theorem dX5_parts_30 : decode cX5_parts 30 = .ok (.aload_n 0, 1) := by decide +kernel
theorem dX5_parts_31 : decode cX5_parts 31 = .ok (.getfield 15, 3) := by decide +kernel
theorem dX5_parts_34 : decode cX5_parts 34 = .ok (.iload 4, 2) := by decide +kernel
theorem dX5_parts_36 : decode cX5_parts 36 = .ok (.iaload, 1) := by decide +kernel
theorem dX5_parts_37 : decode cX5_parts 37 = .ok (.ifCond .le 7, 3) := by decide +kernel
theorem dX5_parts_40 : decode cX5_parts 40 = .ok (.iconst 1, 1) := by decide +kernel
theorem dX5_parts_41 : decode cX5_parts 41 = .ok (.goto 4, 3) := by decide +kernel
theorem dX5_parts_44 : decode cX5_parts 44 = .ok (.iconst 0, 1) := by decide +kernel
theorem dX5_parts_45 : decode cX5_parts 45 = .ok (.iadd, 1) := by decide +kernel
theorem dX5_parts_46 : decode cX5_parts 46 = .ok (.istore_n 3, 1) := by decide +kernel
theorem dX5_parts_47 : decode cX5_parts 47 = .ok (.iinc 4 1, 3) := by decide +kernel
theorem dX5_parts_50 : decode cX5_parts 50 = .ok (.goto (-39), 3) := by decide +kernel
theorem dX5_parts_53 : decode cX5_parts 53 = .ok (.iconst 0, 1) := by decide +kernel
theorem dX5_parts_54 : decode cX5_parts 54 = .ok (.istore 4, 2) := by decide +kernel
theorem dX5_parts_56 : decode cX5_parts 56 = .ok (.iload 4, 2) := by decide +kernel
theorem dX5_parts_58 : decode cX5_parts 58 = .ok (.aload_n 1, 1) := by decide +kernel
theorem dX5_parts_59 : decode cX5_parts 59 = .ok (.getfield 25, 3) := by decide +kernel
theorem dX5_parts_62 : decode cX5_parts 62 = .ok (.if_icmp .ge 80, 3) := by decide +kernel
theorem dX5_parts_65 : decode cX5_parts 65 = .ok (.iload_n 2, 1) := by decide +kernel
theorem dX5_parts_66 : decode cX5_parts 66 = .ok (.iconst 1, 1) := by decide +kernel
theorem dX5_parts_67 : decode cX5_parts 67 = .ok (.iload 4, 2) := by decide +kernel
theorem dX5_parts_69 : decode cX5_parts 69 = .ok (.ishl, 1) := by decide +kernel
theorem dX5_parts_70 : decode cX5_parts 70 = .ok (.iand, 1) := by decide +kernel
theorem dX5_parts_71 : decode cX5_parts 71 = .ok (.ifCond .ne 65, 3) := by decide +kernel
theorem dX5_parts_74 : decode cX5_parts 74 = .ok (.aload_n 0, 1) := by decide +kernel
theorem dX5_parts_75 : decode cX5_parts 75 = .ok (.getfield 18, 3) := by decide +kernel
theorem dX5_parts_78 : decode cX5_parts 78 = .ok (.aload_n 1, 1) := by decide +kernel
theorem dX5_parts_79 : decode cX5_parts 79 = .ok (.getfield 35, 3) := by decide +kernel
theorem dX5_parts_82 : decode cX5_parts 82 = .ok (.iload 4, 2) := by decide +kernel
theorem dX5_parts_84 : decode cX5_parts 84 = .ok (.iaload, 1) := by decide +kernel
theorem dX5_parts_85 : decode cX5_parts 85 = .ok (.iaload, 1) := by decide +kernel
theorem dX5_parts_86 : decode cX5_parts 86 = .ok (.aload_n 0, 1) := by decide +kernel
theorem dX5_parts_87 : decode cX5_parts 87 = .ok (.getfield 18, 3) := by decide +kernel
theorem dX5_parts_90 : decode cX5_parts 90 = .ok (.aload_n 1, 1) := by decide +kernel
theorem dX5_parts_91 : decode cX5_parts 91 = .ok (.getfield 38, 3) := by decide +kernel
theorem dX5_parts_94 : decode cX5_parts 94 = .ok (.iload 4, 2) := by decide +kernel
theorem dX5_parts_96 : decode cX5_parts 96 = .ok (.iaload, 1) := by decide +kernel
theorem dX5_parts_97 : decode cX5_parts 97 = .ok (.iaload, 1) := by decide +kernel
theorem dX5_parts_98 : decode cX5_parts 98 = .ok (.if_icmp .eq 38, 3) := by decide +kernel
theorem dX5_parts_101 : decode cX5_parts 101 = .ok (.aload_n 0, 1) := by decide +kernel
theorem dX5_parts_102 : decode cX5_parts 102 = .ok (.aload_n 1, 1) := by decide +kernel
theorem dX5_parts_103 : decode cX5_parts 103 = .ok (.getfield 61, 3) := by decide +kernel
theorem dX5_parts_106 : decode cX5_parts 106 = .ok (.aload_n 0, 1) := by decide +kernel
theorem dX5_parts_107 : decode cX5_parts 107 = .ok (.getfield 18, 3) := by decide +kernel
theorem dX5_parts_110 : decode cX5_parts 110 = .ok (.aload_n 1, 1) := by decide +kernel
theorem dX5_parts_111 : decode cX5_parts 111 = .ok (.getfield 35, 3) := by decide +kernel
theorem dX5_parts_114 : decode cX5_parts 114 = .ok (.iload 4, 2) := by decide +kernel
theorem dX5_parts_116 : decode cX5_parts 116 = .ok (.iaload, 1) := by decide +kernel
theorem dX5_parts_117 : decode cX5_parts 117 = .ok (.iaload, 1) := by decide +kernel
theorem dX5_parts_118 : decode cX5_parts 118 = .ok (.aload_n 0, 1) := by decide +kernel
theorem dX5_parts_119 : decode cX5_parts 119 = .ok (.getfield 18, 3) := by decide +kernel
theorem dX5_parts_122 : decode cX5_parts 122 = .ok (.aload_n 1, 1) := by decide +kernel
theorem dX5_parts_123 : decode cX5_parts 123 = .ok (.getfield 38, 3) := by decide +kernel
theorem dX5_parts_126 : decode cX5_parts 126 = .ok (.iload 4, 2) := by decide +kernel
theorem dX5_parts_128 : decode cX5_parts 128 = .ok (.iaload, 1) := by decide +kernel
theorem dX5_parts_129 : decode cX5_parts 129 = .ok (.iaload, 1) := by decide +kernel
theorem dX5_parts_130 : decode cX5_parts 130 = .ok (.invokevirtual 64, 3) := by decide +kernel
theorem dX5_parts_133 : decode cX5_parts 133 = .ok (.iinc 3 (-1), 3) := by decide +kernel
theorem dX5_parts_136 : decode cX5_parts 136 = .ok (.iinc 4 1, 3) := by decide +kernel
theorem dX5_parts_139 : decode cX5_parts 139 = .ok (.goto (-83), 3) := by decide +kernel
theorem dX5_parts_142 : decode cX5_parts 142 = .ok (.iload_n 3, 1) := by decide +kernel
theorem dX5_parts_143 : decode cX5_parts 143 = .ok (.ireturn, 1) := by decide +kernel
theorem dX5_mergeGroups_0 : decode cX5_mergeGroups 0 = .ok (.iconst 0, 1) := by decide +kernel
theorem dX5_mergeGroups_1 : decode cX5_mergeGroups 1 = .ok (.istore 4, 2) := by decide +kernel
theorem dX5_mergeGroups_3 : decode cX5_mergeGroups 3 = .ok (.iload 4, 2) := by decide +kernel
theorem dX5_mergeGroups_5 : decode cX5_mergeGroups 5 = .ok (.iload_n 1, 1) := by decide +kernel
theorem dX5_mergeGroups_6 : decode cX5_mergeGroups 6 = .ok (.if_icmp .ge 38, 3) := by decide +kernel
theorem dX5_mergeGroups_9 : decode cX5_mergeGroups 9 = .ok (.aload_n 0, 1) := by decide +kernel
theorem dX5_mergeGroups_10 : decode cX5_mergeGroups 10 = .ok (.getfield 18, 3) := by decide +kernel
theorem dX5_mergeGroups_13 : decode cX5_mergeGroups 13 = .ok (.iload 4, 2) := by decide +kernel
theorem dX5_mergeGroups_15 : decode cX5_mergeGroups 15 = .ok (.aload_n 0, 1) := by decide +kernel
theorem dX5_mergeGroups_16 : decode cX5_mergeGroups 16 = .ok (.getfield 18, 3) := by decide +kernel
theorem dX5_mergeGroups_19 : decode cX5_mergeGroups 19 = .ok (.iload 4, 2) := by decide +kernel
theorem dX5_mergeGroups_21 : decode cX5_mergeGroups 21 = .ok (.iaload, 1) := by decide +kernel
theorem dX5_mergeGroups_22 : decode cX5_mergeGroups 22 = .ok (.iload_n 3, 1) := by decide +kernel
theorem dX5_mergeGroups_23 : decode cX5_mergeGroups 23 = .ok (.if_icmp .ne 7, 3) := by decide +kernel
theorem dX5_mergeGroups_26 : decode cX5_mergeGroups 26 = .ok (.iload_n 2, 1) := by decide +kernel
theorem dX5_mergeGroups_27 : decode cX5_mergeGroups 27 = .ok (.goto 10, 3) := by decide +kernel
theorem dX5_mergeGroups_30 : decode cX5_mergeGroups 30 = .ok (.aload_n 0, 1) := by decide +kernel
theorem dX5_mergeGroups_31 : decode cX5_mergeGroups 31 = .ok (.getfield 18, 3) := by decide +kernel
theorem dX5_mergeGroups_34 : decode cX5_mergeGroups 34 = .ok (.iload 4, 2) := by decide +kernel
theorem dX5_mergeGroups_36 : decode cX5_mergeGroups 36 = .ok (.iaload, 1) := by decide +kernel
theorem dX5_mergeGroups_37 : decode cX5_mergeGroups 37 = .ok (.iastore, 1) := by decide +kernel
theorem dX5_mergeGroups_38 : decode cX5_mergeGroups 38 = .ok (.iinc 4 1, 3) := by decide +kernel
theorem dX5_mergeGroups_41 : decode cX5_mergeGroups 41 = .ok (.goto (-38), 3) := by decide +kernel
theorem dX5_mergeGroups_44 : decode cX5_mergeGroups 44 = .ok (.return_, 1) := by decide +kernel
theorem dX5_strokesOf_0 : decode cX5_strokesOf 0 = .ok (.aload_n 0, 1) := by decide +kernel
theorem dX5_strokesOf_1 : decode cX5_strokesOf 1 = .ok (.aload_n 1, 1) := by decide +kernel
theorem dX5_strokesOf_2 : decode cX5_strokesOf 2 = .ok (.iconst 0, 1) := by decide +kernel
theorem dX5_strokesOf_3 : decode cX5_strokesOf 3 = .ok (.invokevirtual 68, 3) := by decide +kernel
theorem dX5_strokesOf_6 : decode cX5_strokesOf 6 = .ok (.istore_n 2, 1) := by decide +kernel
theorem dX5_strokesOf_7 : decode cX5_strokesOf 7 = .ok (.iconst 0, 1) := by decide +kernel
theorem dX5_strokesOf_8 : decode cX5_strokesOf 8 = .ok (.istore_n 3, 1) := by decide +kernel
theorem dX5_strokesOf_9 : decode cX5_strokesOf 9 = .ok (.aload_n 1, 1) := by decide +kernel
theorem dX5_strokesOf_10 : decode cX5_strokesOf 10 = .ok (.invokevirtual 71, 3) := by decide +kernel
theorem dX5_strokesOf_13 : decode cX5_strokesOf 13 = .ok (.istore 4, 2) := by decide +kernel
theorem dX5_strokesOf_15 : decode cX5_strokesOf 15 = .ok (.iconst 0, 1) := by decide +kernel
theorem dX5_strokesOf_16 : decode cX5_strokesOf 16 = .ok (.istore 5, 2) := by decide +kernel
theorem dX5_strokesOf_18 : decode cX5_strokesOf 18 = .ok (.iload 5, 2) := by decide +kernel
theorem dX5_strokesOf_20 : decode cX5_strokesOf 20 = .ok (.aload_n 1, 1) := by decide +kernel
theorem dX5_strokesOf_21 : decode cX5_strokesOf 21 = .ok (.getfield 61, 3) := by decide +kernel
theorem dX5_strokesOf_24 : decode cX5_strokesOf 24 = .ok (.if_icmp .ge 31, 3) := by decide +kernel
theorem dX5_strokesOf_27 : decode cX5_strokesOf 27 = .ok (.iload 4, 2) := by decide +kernel
theorem dX5_strokesOf_29 : decode cX5_strokesOf 29 = .ok (.iconst 1, 1) := by decide +kernel
theorem dX5_strokesOf_30 : decode cX5_strokesOf 30 = .ok (.iload 5, 2) := by decide +kernel
theorem dX5_strokesOf_32 : decode cX5_strokesOf 32 = .ok (.ishl, 1) := by decide +kernel
theorem dX5_strokesOf_33 : decode cX5_strokesOf 33 = .ok (.iand, 1) := by decide +kernel
theorem dX5_strokesOf_34 : decode cX5_strokesOf 34 = .ok (.ifCond .eq 15, 3) := by decide +kernel
theorem dX5_strokesOf_37 : decode cX5_strokesOf 37 = .ok (.iload_n 3, 1) := by decide +kernel
theorem dX5_strokesOf_38 : decode cX5_strokesOf 38 = .ok (.iconst 1, 1) := by decide +kernel
theorem dX5_strokesOf_39 : decode cX5_strokesOf 39 = .ok (.aload_n 0, 1) := by decide +kernel
theorem dX5_strokesOf_40 : decode cX5_strokesOf 40 = .ok (.getfield 18, 3) := by decide +kernel
theorem dX5_strokesOf_43 : decode cX5_strokesOf 43 = .ok (.iload 5, 2) := by decide +kernel
theorem dX5_strokesOf_45 : decode cX5_strokesOf 45 = .ok (.iaload, 1) := by decide +kernel
theorem dX5_strokesOf_46 : decode cX5_strokesOf 46 = .ok (.ishl, 1) := by decide +kernel
theorem dX5_strokesOf_47 : decode cX5_strokesOf 47 = .ok (.ior, 1) := by decide +kernel
theorem dX5_strokesOf_48 : decode cX5_strokesOf 48 = .ok (.istore_n 3, 1) := by decide +kernel
theorem dX5_strokesOf_49 : decode cX5_strokesOf 49 = .ok (.iinc 5 1, 3) := by decide +kernel
theorem dX5_strokesOf_52 : decode cX5_strokesOf 52 = .ok (.goto (-34), 3) := by decide +kernel
theorem dX5_strokesOf_55 : decode cX5_strokesOf 55 = .ok (.iload_n 2, 1) := by decide +kernel
theorem dX5_strokesOf_56 : decode cX5_strokesOf 56 = .ok (.iload_n 3, 1) := by decide +kernel
theorem dX5_strokesOf_57 : decode cX5_strokesOf 57 = .ok (.invokestatic 55, 3) := by decide +kernel
theorem dX5_strokesOf_60 : decode cX5_strokesOf 60 = .ok (.isub, 1) := by decide +kernel
theorem dX5_strokesOf_61 : decode cX5_strokesOf 61 = .ok (.iload 4, 2) := by decide +kernel
theorem dX5_strokesOf_63 : decode cX5_strokesOf 63 = .ok (.invokestatic 55, 3) := by decide +kernel
theorem dX5_strokesOf_66 : decode cX5_strokesOf 66 = .ok (.iconst 2, 1) := by decide +kernel
theorem dX5_strokesOf_67 : decode cX5_strokesOf 67 = .ok (.idiv, 1) := by decide +kernel
theorem dX5_strokesOf_68 : decode cX5_strokesOf 68 = .ok (.iadd, 1) := by decide +kernel
theorem dX5_strokesOf_69 : decode cX5_strokesOf 69 = .ok (.ireturn, 1) := by decide +kernel
theorem dX5_measure_0 : decode cX5_measure 0 = .ok (.aload_n 0, 1) := by decide +kernel
theorem dX5_measure_1 : decode cX5_measure 1 = .ok (.getfield 9, 3) := by decide +kernel
theorem dX5_measure_4 : decode cX5_measure 4 = .ok (.iconst (-1), 1) := by decide +kernel
theorem dX5_measure_5 : decode cX5_measure 5 = .ok (.invokestatic 45, 3) := by decide +kernel
theorem dX5_measure_8 : decode cX5_measure 8 = .ok (.aload_n 0, 1) := by decide +kernel
theorem dX5_measure_9 : decode cX5_measure 9 = .ok (.getfield 9, 3) := by decide +kernel
theorem dX5_measure_12 : decode cX5_measure 12 = .ok (.iload_n 2, 1) := by decide +kernel
theorem dX5_measure_13 : decode cX5_measure 13 = .ok (.iconst 0, 1) := by decide +kernel
theorem dX5_measure_14 : decode cX5_measure 14 = .ok (.iastore, 1) := by decide +kernel
theorem dX5_measure_15 : decode cX5_measure 15 = .ok (.iconst 1, 1) := by decide +kernel
theorem dX5_measure_16 : decode cX5_measure 16 = .ok (.istore_n 3, 1) := by decide +kernel
theorem dX5_measure_17 : decode cX5_measure 17 = .ok (.iconst 0, 1) := by decide +kernel
theorem dX5_measure_18 : decode cX5_measure 18 = .ok (.istore 4, 2) := by decide +kernel
theorem dX5_measure_20 : decode cX5_measure 20 = .ok (.iload 4, 2) := by decide +kernel
theorem dX5_measure_22 : decode cX5_measure 22 = .ok (.aload_n 1, 1) := by decide +kernel
theorem dX5_measure_23 : decode cX5_measure 23 = .ok (.getfield 61, 3) := by decide +kernel
theorem dX5_measure_26 : decode cX5_measure 26 = .ok (.if_icmp .ge 89, 3) := by decide +kernel
theorem dX5_measure_29 : decode cX5_measure 29 = .ok (.iload_n 3, 1) := by decide +kernel
theorem dX5_measure_30 : decode cX5_measure 30 = .ok (.ifCond .eq 85, 3) := by decide +kernel
theorem dX5_measure_33 : decode cX5_measure 33 = .ok (.iconst 0, 1) := by decide +kernel
theorem dX5_measure_34 : decode cX5_measure 34 = .ok (.istore_n 3, 1) := by decide +kernel
theorem dX5_measure_35 : decode cX5_measure 35 = .ok (.iconst 0, 1) := by decide +kernel
theorem dX5_measure_36 : decode cX5_measure 36 = .ok (.istore 5, 2) := by decide +kernel
theorem dX5_measure_38 : decode cX5_measure 38 = .ok (.iload 5, 2) := by decide +kernel
theorem dX5_measure_40 : decode cX5_measure 40 = .ok (.aload_n 1, 1) := by decide +kernel
theorem dX5_measure_41 : decode cX5_measure 41 = .ok (.getfield 25, 3) := by decide +kernel
theorem dX5_measure_44 : decode cX5_measure 44 = .ok (.if_icmp .ge 65, 3) := by decide +kernel
theorem dX5_measure_47 : decode cX5_measure 47 = .ok (.iload_n 3, 1) := by decide +kernel
theorem dX5_measure_48 : decode cX5_measure 48 = .ok (.aload_n 0, 1) := by decide +kernel
theorem dX5_measure_49 : decode cX5_measure 49 = .ok (.aload_n 1, 1) := by decide +kernel
theorem dX5_measure_50 : decode cX5_measure 50 = .ok (.getfield 35, 3) := by decide +kernel
theorem dX5_measure_53 : decode cX5_measure 53 = .ok (.iload 5, 2) := by decide +kernel
theorem dX5_measure_55 : decode cX5_measure 55 = .ok (.iaload, 1) := by decide +kernel
theorem dX5_measure_56 : decode cX5_measure 56 = .ok (.aload_n 1, 1) := by decide +kernel
theorem dX5_measure_57 : decode cX5_measure 57 = .ok (.getfield 38, 3) := by decide +kernel
theorem dX5_measure_60 : decode cX5_measure 60 = .ok (.iload 5, 2) := by decide +kernel
theorem dX5_measure_62 : decode cX5_measure 62 = .ok (.iaload, 1) := by decide +kernel
theorem dX5_measure_63 : decode cX5_measure 63 = .ok (.aload_n 1, 1) := by decide +kernel
theorem dX5_measure_64 : decode cX5_measure 64 = .ok (.getfield 75, 3) := by decide +kernel
theorem dX5_measure_67 : decode cX5_measure 67 = .ok (.iload 5, 2) := by decide +kernel
theorem dX5_measure_69 : decode cX5_measure 69 = .ok (.iaload, 1) := by decide +kernel
theorem dX5_measure_70 : decode cX5_measure 70 = .ok (.invokevirtual 78, 3) := by decide +kernel
theorem dX5_measure_73 : decode cX5_measure 73 = .ok (.ior, 1) := by decide +kernel
theorem dX5_measure_74 : decode cX5_measure 74 = .ok (.istore_n 3, 1) := by decide +kernel
theorem dX5_measure_75 : decode cX5_measure 75 = .ok (.iload_n 3, 1) := by decide +kernel
theorem dX5_measure_76 : decode cX5_measure 76 = .ok (.aload_n 0, 1) := by decide +kernel
theorem dX5_measure_77 : decode cX5_measure 77 = .ok (.aload_n 1, 1) := by decide +kernel
theorem dX5_measure_78 : decode cX5_measure 78 = .ok (.getfield 38, 3) := by decide +kernel
theorem dX5_measure_81 : decode cX5_measure 81 = .ok (.iload 5, 2) := by decide +kernel
theorem dX5_measure_83 : decode cX5_measure 83 = .ok (.iaload, 1) := by decide +kernel
theorem dX5_measure_84 : decode cX5_measure 84 = .ok (.aload_n 1, 1) := by decide +kernel
theorem dX5_measure_85 : decode cX5_measure 85 = .ok (.getfield 35, 3) := by decide +kernel
theorem dX5_measure_88 : decode cX5_measure 88 = .ok (.iload 5, 2) := by decide +kernel
theorem dX5_measure_90 : decode cX5_measure 90 = .ok (.iaload, 1) := by decide +kernel
theorem dX5_measure_91 : decode cX5_measure 91 = .ok (.aload_n 1, 1) := by decide +kernel
theorem dX5_measure_92 : decode cX5_measure 92 = .ok (.getfield 75, 3) := by decide +kernel
theorem dX5_measure_95 : decode cX5_measure 95 = .ok (.iload 5, 2) := by decide +kernel
theorem dX5_measure_97 : decode cX5_measure 97 = .ok (.iaload, 1) := by decide +kernel
theorem dX5_measure_98 : decode cX5_measure 98 = .ok (.invokevirtual 78, 3) := by decide +kernel
theorem dX5_measure_101 : decode cX5_measure 101 = .ok (.ior, 1) := by decide +kernel
theorem dX5_measure_102 : decode cX5_measure 102 = .ok (.istore_n 3, 1) := by decide +kernel
theorem dX5_measure_103 : decode cX5_measure 103 = .ok (.iinc 5 1, 3) := by decide +kernel
theorem dX5_measure_106 : decode cX5_measure 106 = .ok (.goto (-68), 3) := by decide +kernel
theorem dX5_measure_109 : decode cX5_measure 109 = .ok (.iinc 4 1, 3) := by decide +kernel
theorem dX5_measure_112 : decode cX5_measure 112 = .ok (.goto (-92), 3) := by decide +kernel
theorem dX5_measure_115 : decode cX5_measure 115 = .ok (.return_, 1) := by decide +kernel
theorem dX5_shortens_0 : decode cX5_shortens 0 = .ok (.aload_n 0, 1) := by decide +kernel
theorem dX5_shortens_1 : decode cX5_shortens 1 = .ok (.getfield 9, 3) := by decide +kernel
theorem dX5_shortens_4 : decode cX5_shortens 4 = .ok (.iload_n 1, 1) := by decide +kernel
theorem dX5_shortens_5 : decode cX5_shortens 5 = .ok (.iaload, 1) := by decide +kernel
theorem dX5_shortens_6 : decode cX5_shortens 6 = .ok (.iconst (-1), 1) := by decide +kernel
theorem dX5_shortens_7 : decode cX5_shortens 7 = .ok (.if_icmp .eq 30, 3) := by decide +kernel
theorem dX5_shortens_10 : decode cX5_shortens 10 = .ok (.aload_n 0, 1) := by decide +kernel
theorem dX5_shortens_11 : decode cX5_shortens 11 = .ok (.getfield 9, 3) := by decide +kernel
theorem dX5_shortens_14 : decode cX5_shortens 14 = .ok (.iload_n 2, 1) := by decide +kernel
theorem dX5_shortens_15 : decode cX5_shortens 15 = .ok (.iaload, 1) := by decide +kernel
theorem dX5_shortens_16 : decode cX5_shortens 16 = .ok (.iconst (-1), 1) := by decide +kernel
theorem dX5_shortens_17 : decode cX5_shortens 17 = .ok (.if_icmp .eq 22, 3) := by decide +kernel
theorem dX5_shortens_20 : decode cX5_shortens 20 = .ok (.aload_n 0, 1) := by decide +kernel
theorem dX5_shortens_21 : decode cX5_shortens 21 = .ok (.getfield 9, 3) := by decide +kernel
theorem dX5_shortens_24 : decode cX5_shortens 24 = .ok (.iload_n 2, 1) := by decide +kernel
theorem dX5_shortens_25 : decode cX5_shortens 25 = .ok (.iaload, 1) := by decide +kernel
theorem dX5_shortens_26 : decode cX5_shortens 26 = .ok (.aload_n 0, 1) := by decide +kernel
theorem dX5_shortens_27 : decode cX5_shortens 27 = .ok (.getfield 9, 3) := by decide +kernel
theorem dX5_shortens_30 : decode cX5_shortens 30 = .ok (.iload_n 1, 1) := by decide +kernel
theorem dX5_shortens_31 : decode cX5_shortens 31 = .ok (.iaload, 1) := by decide +kernel
theorem dX5_shortens_32 : decode cX5_shortens 32 = .ok (.iload_n 3, 1) := by decide +kernel
theorem dX5_shortens_33 : decode cX5_shortens 33 = .ok (.iadd, 1) := by decide +kernel
theorem dX5_shortens_34 : decode cX5_shortens 34 = .ok (.if_icmp .gt 5, 3) := by decide +kernel
theorem dX5_shortens_37 : decode cX5_shortens 37 = .ok (.iconst 0, 1) := by decide +kernel
theorem dX5_shortens_38 : decode cX5_shortens 38 = .ok (.ireturn, 1) := by decide +kernel
theorem dX5_shortens_39 : decode cX5_shortens 39 = .ok (.aload_n 0, 1) := by decide +kernel
theorem dX5_shortens_40 : decode cX5_shortens 40 = .ok (.getfield 9, 3) := by decide +kernel
theorem dX5_shortens_43 : decode cX5_shortens 43 = .ok (.iload_n 2, 1) := by decide +kernel
theorem dX5_shortens_44 : decode cX5_shortens 44 = .ok (.aload_n 0, 1) := by decide +kernel
theorem dX5_shortens_45 : decode cX5_shortens 45 = .ok (.getfield 9, 3) := by decide +kernel
theorem dX5_shortens_48 : decode cX5_shortens 48 = .ok (.iload_n 1, 1) := by decide +kernel
theorem dX5_shortens_49 : decode cX5_shortens 49 = .ok (.iaload, 1) := by decide +kernel
theorem dX5_shortens_50 : decode cX5_shortens 50 = .ok (.iload_n 3, 1) := by decide +kernel
theorem dX5_shortens_51 : decode cX5_shortens 51 = .ok (.iadd, 1) := by decide +kernel
theorem dX5_shortens_52 : decode cX5_shortens 52 = .ok (.iastore, 1) := by decide +kernel
theorem dX5_shortens_53 : decode cX5_shortens 53 = .ok (.iconst 1, 1) := by decide +kernel
theorem dX5_shortens_54 : decode cX5_shortens 54 = .ok (.ireturn, 1) := by decide +kernel
theorem dX5_spanOf_0 : decode cX5_spanOf 0 = .ok (.iconst 0, 1) := by decide +kernel
theorem dX5_spanOf_1 : decode cX5_spanOf 1 = .ok (.istore_n 2, 1) := by decide +kernel
theorem dX5_spanOf_2 : decode cX5_spanOf 2 = .ok (.iconst 0, 1) := by decide +kernel
theorem dX5_spanOf_3 : decode cX5_spanOf 3 = .ok (.istore_n 3, 1) := by decide +kernel
theorem dX5_spanOf_4 : decode cX5_spanOf 4 = .ok (.iload_n 3, 1) := by decide +kernel
theorem dX5_spanOf_5 : decode cX5_spanOf 5 = .ok (.aload_n 1, 1) := by decide +kernel
theorem dX5_spanOf_6 : decode cX5_spanOf 6 = .ok (.getfield 61, 3) := by decide +kernel
theorem dX5_spanOf_9 : decode cX5_spanOf 9 = .ok (.if_icmp .ge 45, 3) := by decide +kernel
theorem dX5_spanOf_12 : decode cX5_spanOf 12 = .ok (.aload_n 0, 1) := by decide +kernel
theorem dX5_spanOf_13 : decode cX5_spanOf 13 = .ok (.aload_n 1, 1) := by decide +kernel
theorem dX5_spanOf_14 : decode cX5_spanOf 14 = .ok (.iload_n 3, 1) := by decide +kernel
theorem dX5_spanOf_15 : decode cX5_spanOf 15 = .ok (.invokevirtual 82, 3) := by decide +kernel
theorem dX5_spanOf_18 : decode cX5_spanOf 18 = .ok (.iconst 0, 1) := by decide +kernel
theorem dX5_spanOf_19 : decode cX5_spanOf 19 = .ok (.istore 4, 2) := by decide +kernel
theorem dX5_spanOf_21 : decode cX5_spanOf 21 = .ok (.iload 4, 2) := by decide +kernel
theorem dX5_spanOf_23 : decode cX5_spanOf 23 = .ok (.aload_n 1, 1) := by decide +kernel
theorem dX5_spanOf_24 : decode cX5_spanOf 24 = .ok (.getfield 61, 3) := by decide +kernel
theorem dX5_spanOf_27 : decode cX5_spanOf 27 = .ok (.if_icmp .ge 21, 3) := by decide +kernel
theorem dX5_spanOf_30 : decode cX5_spanOf 30 = .ok (.iload_n 2, 1) := by decide +kernel
theorem dX5_spanOf_31 : decode cX5_spanOf 31 = .ok (.aload_n 0, 1) := by decide +kernel
theorem dX5_spanOf_32 : decode cX5_spanOf 32 = .ok (.getfield 9, 3) := by decide +kernel
theorem dX5_spanOf_35 : decode cX5_spanOf 35 = .ok (.iload 4, 2) := by decide +kernel
theorem dX5_spanOf_37 : decode cX5_spanOf 37 = .ok (.iaload, 1) := by decide +kernel
theorem dX5_spanOf_38 : decode cX5_spanOf 38 = .ok (.invokestatic 85, 3) := by decide +kernel
theorem dX5_spanOf_41 : decode cX5_spanOf 41 = .ok (.istore_n 2, 1) := by decide +kernel
theorem dX5_spanOf_42 : decode cX5_spanOf 42 = .ok (.iinc 4 1, 3) := by decide +kernel
theorem dX5_spanOf_45 : decode cX5_spanOf 45 = .ok (.goto (-24), 3) := by decide +kernel
theorem dX5_spanOf_48 : decode cX5_spanOf 48 = .ok (.iinc 3 1, 3) := by decide +kernel
theorem dX5_spanOf_51 : decode cX5_spanOf 51 = .ok (.goto (-47), 3) := by decide +kernel
theorem dX5_spanOf_54 : decode cX5_spanOf 54 = .ok (.iload_n 2, 1) := by decide +kernel
theorem dX5_spanOf_55 : decode cX5_spanOf 55 = .ok (.ireturn, 1) := by decide +kernel
theorem dX5_leastTwice_0 : decode cX5_leastTwice 0 = .ok (.aload_n 1, 1) := by decide +kernel
theorem dX5_leastTwice_1 : decode cX5_leastTwice 1 = .ok (.getfield 25, 3) := by decide +kernel
theorem dX5_leastTwice_4 : decode cX5_leastTwice 4 = .ok (.bipush 12, 2) := by decide +kernel
theorem dX5_leastTwice_6 : decode cX5_leastTwice 6 = .ok (.if_icmp .gt 13, 3) := by decide +kernel
theorem dX5_leastTwice_9 : decode cX5_leastTwice 9 = .ok (.aload_n 0, 1) := by decide +kernel
theorem dX5_leastTwice_10 : decode cX5_leastTwice 10 = .ok (.aload_n 1, 1) := by decide +kernel
theorem dX5_leastTwice_11 : decode cX5_leastTwice 11 = .ok (.iconst 0, 1) := by decide +kernel
theorem dX5_leastTwice_12 : decode cX5_leastTwice 12 = .ok (.invokevirtual 68, 3) := by decide +kernel
theorem dX5_leastTwice_15 : decode cX5_leastTwice 15 = .ok (.iconst 1, 1) := by decide +kernel
theorem dX5_leastTwice_16 : decode cX5_leastTwice 16 = .ok (.if_icmp .le 5, 3) := by decide +kernel
theorem dX5_leastTwice_19 : decode cX5_leastTwice 19 = .ok (.iconst (-1), 1) := by decide +kernel
theorem dX5_leastTwice_20 : decode cX5_leastTwice 20 = .ok (.ireturn, 1) := by decide +kernel
theorem dX5_leastTwice_21 : decode cX5_leastTwice 21 = .ok (.aload_n 1, 1) := by decide +kernel
theorem dX5_leastTwice_22 : decode cX5_leastTwice 22 = .ok (.invokevirtual 71, 3) := by decide +kernel
theorem dX5_leastTwice_25 : decode cX5_leastTwice 25 = .ok (.istore_n 2, 1) := by decide +kernel
theorem dX5_leastTwice_26 : decode cX5_leastTwice 26 = .ok (.iload_n 2, 1) := by decide +kernel
theorem dX5_leastTwice_27 : decode cX5_leastTwice 27 = .ok (.invokestatic 55, 3) := by decide +kernel
theorem dX5_leastTwice_30 : decode cX5_leastTwice 30 = .ok (.iconst 2, 1) := by decide +kernel
theorem dX5_leastTwice_31 : decode cX5_leastTwice 31 = .ok (.if_icmp .gt 5, 3) := by decide +kernel
theorem dX5_leastTwice_34 : decode cX5_leastTwice 34 = .ok (.iconst 0, 1) := by decide +kernel
theorem dX5_leastTwice_35 : decode cX5_leastTwice 35 = .ok (.ireturn, 1) := by decide +kernel
theorem dX5_leastTwice_36 : decode cX5_leastTwice 36 = .ok (.iconst 0, 1) := by decide +kernel
theorem dX5_leastTwice_37 : decode cX5_leastTwice 37 = .ok (.istore_n 3, 1) := by decide +kernel
theorem dX5_leastTwice_38 : decode cX5_leastTwice 38 = .ok (.iconst 0, 1) := by decide +kernel
theorem dX5_leastTwice_39 : decode cX5_leastTwice 39 = .ok (.istore 4, 2) := by decide +kernel
theorem dX5_leastTwice_41 : decode cX5_leastTwice 41 = .ok (.ldc 91, 2) := by decide +kernel
theorem dX5_leastTwice_43 : decode cX5_leastTwice 43 = .ok (.istore 5, 2) := by decide +kernel
theorem dX5_leastTwice_45 : decode cX5_leastTwice 45 = .ok (.iconst 1, 1) := by decide +kernel
theorem dX5_leastTwice_46 : decode cX5_leastTwice 46 = .ok (.istore 6, 2) := by decide +kernel
theorem dX5_leastTwice_48 : decode cX5_leastTwice 48 = .ok (.iload 6, 2) := by decide +kernel
theorem dX5_leastTwice_50 : decode cX5_leastTwice 50 = .ok (.iconst 1, 1) := by decide +kernel
theorem dX5_leastTwice_51 : decode cX5_leastTwice 51 = .ok (.aload_n 1, 1) := by decide +kernel
theorem dX5_leastTwice_52 : decode cX5_leastTwice 52 = .ok (.getfield 25, 3) := by decide +kernel
theorem dX5_leastTwice_55 : decode cX5_leastTwice 55 = .ok (.ishl, 1) := by decide +kernel
theorem dX5_leastTwice_56 : decode cX5_leastTwice 56 = .ok (.if_icmp .ge 83, 3) := by decide +kernel
theorem dX5_leastTwice_59 : decode cX5_leastTwice 59 = .ok (.iload 6, 2) := by decide +kernel
theorem dX5_leastTwice_61 : decode cX5_leastTwice 61 = .ok (.invokestatic 92, 3) := by decide +kernel
theorem dX5_leastTwice_64 : decode cX5_leastTwice 64 = .ok (.istore 7, 2) := by decide +kernel
theorem dX5_leastTwice_66 : decode cX5_leastTwice 66 = .ok (.iload_n 3, 1) := by decide +kernel
theorem dX5_leastTwice_67 : decode cX5_leastTwice 67 = .ok (.iconst 1, 1) := by decide +kernel
theorem dX5_leastTwice_68 : decode cX5_leastTwice 68 = .ok (.iload 7, 2) := by decide +kernel
theorem dX5_leastTwice_70 : decode cX5_leastTwice 70 = .ok (.ishl, 1) := by decide +kernel
theorem dX5_leastTwice_71 : decode cX5_leastTwice 71 = .ok (.ixor, 1) := by decide +kernel
theorem dX5_leastTwice_72 : decode cX5_leastTwice 72 = .ok (.istore_n 3, 1) := by decide +kernel
theorem dX5_leastTwice_73 : decode cX5_leastTwice 73 = .ok (.iload_n 2, 1) := by decide +kernel
theorem dX5_leastTwice_74 : decode cX5_leastTwice 74 = .ok (.aload_n 1, 1) := by decide +kernel
theorem dX5_leastTwice_75 : decode cX5_leastTwice 75 = .ok (.iload 7, 2) := by decide +kernel
theorem dX5_leastTwice_77 : decode cX5_leastTwice 77 = .ok (.invokevirtual 95, 3) := by decide +kernel
theorem dX5_leastTwice_80 : decode cX5_leastTwice 80 = .ok (.ixor, 1) := by decide +kernel
theorem dX5_leastTwice_81 : decode cX5_leastTwice 81 = .ok (.istore_n 2, 1) := by decide +kernel
theorem dX5_leastTwice_82 : decode cX5_leastTwice 82 = .ok (.iload 4, 2) := by decide +kernel
theorem dX5_leastTwice_84 : decode cX5_leastTwice 84 = .ok (.iload_n 3, 1) := by decide +kernel
theorem dX5_leastTwice_85 : decode cX5_leastTwice 85 = .ok (.iconst 1, 1) := by decide +kernel
theorem dX5_leastTwice_86 : decode cX5_leastTwice 86 = .ok (.iload 7, 2) := by decide +kernel
theorem dX5_leastTwice_88 : decode cX5_leastTwice 88 = .ok (.ishl, 1) := by decide +kernel
theorem dX5_leastTwice_89 : decode cX5_leastTwice 89 = .ok (.iand, 1) := by decide +kernel
theorem dX5_leastTwice_90 : decode cX5_leastTwice 90 = .ok (.ifCond .eq 13, 3) := by decide +kernel
theorem dX5_leastTwice_93 : decode cX5_leastTwice 93 = .ok (.aload_n 1, 1) := by decide +kernel
theorem dX5_leastTwice_94 : decode cX5_leastTwice 94 = .ok (.getfield 75, 3) := by decide +kernel
theorem dX5_leastTwice_97 : decode cX5_leastTwice 97 = .ok (.iload 7, 2) := by decide +kernel
theorem dX5_leastTwice_99 : decode cX5_leastTwice 99 = .ok (.iaload, 1) := by decide +kernel
theorem dX5_leastTwice_100 : decode cX5_leastTwice 100 = .ok (.goto 11, 3) := by decide +kernel
theorem dX5_leastTwice_103 : decode cX5_leastTwice 103 = .ok (.aload_n 1, 1) := by decide +kernel
theorem dX5_leastTwice_104 : decode cX5_leastTwice 104 = .ok (.getfield 75, 3) := by decide +kernel
theorem dX5_leastTwice_107 : decode cX5_leastTwice 107 = .ok (.iload 7, 2) := by decide +kernel
theorem dX5_leastTwice_109 : decode cX5_leastTwice 109 = .ok (.iaload, 1) := by decide +kernel
theorem dX5_leastTwice_110 : decode cX5_leastTwice 110 = .ok (.ineg, 1) := by decide +kernel
theorem dX5_leastTwice_111 : decode cX5_leastTwice 111 = .ok (.iadd, 1) := by decide +kernel
theorem dX5_leastTwice_112 : decode cX5_leastTwice 112 = .ok (.istore 4, 2) := by decide +kernel
theorem dX5_leastTwice_114 : decode cX5_leastTwice 114 = .ok (.iload 4, 2) := by decide +kernel
theorem dX5_leastTwice_116 : decode cX5_leastTwice 116 = .ok (.iload 5, 2) := by decide +kernel
theorem dX5_leastTwice_118 : decode cX5_leastTwice 118 = .ok (.if_icmp .ge 15, 3) := by decide +kernel
theorem dX5_leastTwice_121 : decode cX5_leastTwice 121 = .ok (.iload_n 2, 1) := by decide +kernel
theorem dX5_leastTwice_122 : decode cX5_leastTwice 122 = .ok (.invokestatic 55, 3) := by decide +kernel
theorem dX5_leastTwice_125 : decode cX5_leastTwice 125 = .ok (.iconst 2, 1) := by decide +kernel
theorem dX5_leastTwice_126 : decode cX5_leastTwice 126 = .ok (.if_icmp .gt 7, 3) := by decide +kernel
theorem dX5_leastTwice_129 : decode cX5_leastTwice 129 = .ok (.iload 4, 2) := by decide +kernel
theorem dX5_leastTwice_131 : decode cX5_leastTwice 131 = .ok (.istore 5, 2) := by decide +kernel
theorem dX5_leastTwice_133 : decode cX5_leastTwice 133 = .ok (.iinc 6 1, 3) := by decide +kernel
theorem dX5_leastTwice_136 : decode cX5_leastTwice 136 = .ok (.goto (-88), 3) := by decide +kernel
theorem dX5_leastTwice_139 : decode cX5_leastTwice 139 = .ok (.iload 5, 2) := by decide +kernel
theorem dX5_leastTwice_141 : decode cX5_leastTwice 141 = .ok (.ireturn, 1) := by decide +kernel
theorem dX6_init_0 : decode cX6_init 0 = .ok (.aload_n 0, 1) := by decide +kernel
theorem dX6_init_1 : decode cX6_init 1 = .ok (.invokespecial 3, 3) := by decide +kernel
theorem dX6_init_4 : decode cX6_init 4 = .ok (.aload_n 0, 1) := by decide +kernel
theorem dX6_init_5 : decode cX6_init 5 = .ok (.sipush 201, 3) := by decide +kernel
theorem dX6_init_8 : decode cX6_init 8 = .ok (.newarray .int, 2) := by decide +kernel
theorem dX6_init_10 : decode cX6_init 10 = .ok (.putfield 11, 3) := by decide +kernel
theorem dX6_init_13 : decode cX6_init 13 = .ok (.return_, 1) := by decide +kernel
theorem dX6_copy_0 : decode cX6_copy 0 = .ok (.aload_n 1, 1) := by decide +kernel
theorem dX6_copy_1 : decode cX6_copy 1 = .ok (.getfield 11, 3) := by decide +kernel
theorem dX6_copy_4 : decode cX6_copy 4 = .ok (.iconst 0, 1) := by decide +kernel
theorem dX6_copy_5 : decode cX6_copy 5 = .ok (.aload_n 0, 1) := by decide +kernel
theorem dX6_copy_6 : decode cX6_copy 6 = .ok (.getfield 11, 3) := by decide +kernel
theorem dX6_copy_9 : decode cX6_copy 9 = .ok (.iconst 0, 1) := by decide +kernel
theorem dX6_copy_10 : decode cX6_copy 10 = .ok (.sipush 201, 3) := by decide +kernel
theorem dX6_copy_13 : decode cX6_copy 13 = .ok (.invokestatic 15, 3) := by decide +kernel
theorem dX6_copy_16 : decode cX6_copy 16 = .ok (.aload_n 0, 1) := by decide +kernel
theorem dX6_copy_17 : decode cX6_copy 17 = .ok (.aload_n 1, 1) := by decide +kernel
theorem dX6_copy_18 : decode cX6_copy 18 = .ok (.getfield 21, 3) := by decide +kernel
theorem dX6_copy_21 : decode cX6_copy 21 = .ok (.putfield 21, 3) := by decide +kernel
theorem dX6_copy_24 : decode cX6_copy 24 = .ok (.return_, 1) := by decide +kernel
theorem dX6_worthBy_0 : decode cX6_worthBy 0 = .ok (.iconst 0, 1) := by decide +kernel
theorem dX6_worthBy_1 : decode cX6_worthBy 1 = .ok (.istore_n 3, 1) := by decide +kernel
theorem dX6_worthBy_2 : decode cX6_worthBy 2 = .ok (.iconst 0, 1) := by decide +kernel
theorem dX6_worthBy_3 : decode cX6_worthBy 3 = .ok (.istore 4, 2) := by decide +kernel
theorem dX6_worthBy_5 : decode cX6_worthBy 5 = .ok (.iload 4, 2) := by decide +kernel
theorem dX6_worthBy_7 : decode cX6_worthBy 7 = .ok (.aload_n 0, 1) := by decide +kernel
theorem dX6_worthBy_8 : decode cX6_worthBy 8 = .ok (.getfield 21, 3) := by decide +kernel
theorem dX6_worthBy_11 : decode cX6_worthBy 11 = .ok (.if_icmp .ge 151, 3) := by decide +kernel
theorem dX6_worthBy_14 : decode cX6_worthBy 14 = .ok (.aload_n 0, 1) := by decide +kernel
theorem dX6_worthBy_15 : decode cX6_worthBy 15 = .ok (.getfield 11, 3) := by decide +kernel
theorem dX6_worthBy_18 : decode cX6_worthBy 18 = .ok (.iload 4, 2) := by decide +kernel
theorem dX6_worthBy_20 : decode cX6_worthBy 20 = .ok (.iaload, 1) := by decide +kernel
theorem dX6_worthBy_21 : decode cX6_worthBy 21 = .ok (.istore 5, 2) := by decide +kernel
theorem dX6_worthBy_23 : decode cX6_worthBy 23 = .ok (.iload 5, 2) := by decide +kernel
theorem dX6_worthBy_25 : decode cX6_worthBy 25 = .ok (.bipush (-59), 2) := by decide +kernel
theorem dX6_worthBy_27 : decode cX6_worthBy 27 = .ok (.if_icmp .ne 18, 3) := by decide +kernel
theorem dX6_worthBy_30 : decode cX6_worthBy 30 = .ok (.iload_n 3, 1) := by decide +kernel
theorem dX6_worthBy_31 : decode cX6_worthBy 31 = .ok (.ifCond .le 12, 3) := by decide +kernel
theorem dX6_worthBy_34 : decode cX6_worthBy 34 = .ok (.aload_n 2, 1) := by decide +kernel
theorem dX6_worthBy_35 : decode cX6_worthBy 35 = .ok (.iload_n 3, 1) := by decide +kernel
theorem dX6_worthBy_36 : decode cX6_worthBy 36 = .ok (.iconst 1, 1) := by decide +kernel
theorem dX6_worthBy_37 : decode cX6_worthBy 37 = .ok (.isub, 1) := by decide +kernel
theorem dX6_worthBy_38 : decode cX6_worthBy 38 = .ok (.laload, 1) := by decide +kernel
theorem dX6_worthBy_39 : decode cX6_worthBy 39 = .ok (.l2i, 1) := by decide +kernel
theorem dX6_worthBy_40 : decode cX6_worthBy 40 = .ok (.goto 4, 3) := by decide +kernel
theorem dX6_worthBy_43 : decode cX6_worthBy 43 = .ok (.iconst 0, 1) := by decide +kernel
theorem dX6_worthBy_44 : decode cX6_worthBy 44 = .ok (.ireturn, 1) := by decide +kernel
theorem dX6_worthBy_45 : decode cX6_worthBy 45 = .ok (.iload 5, 2) := by decide +kernel
theorem dX6_worthBy_47 : decode cX6_worthBy 47 = .ok (.sipush 20000, 3) := by decide +kernel
theorem dX6_worthBy_50 : decode cX6_worthBy 50 = .ok (.if_icmp .lt 54, 3) := by decide +kernel
theorem dX6_worthBy_53 : decode cX6_worthBy 53 = .ok (.iload_n 3, 1) := by decide +kernel
theorem dX6_worthBy_54 : decode cX6_worthBy 54 = .ok (.ifCond .le 17, 3) := by decide +kernel
theorem dX6_worthBy_57 : decode cX6_worthBy 57 = .ok (.aload_n 2, 1) := by decide +kernel
theorem dX6_worthBy_58 : decode cX6_worthBy 58 = .ok (.iload_n 3, 1) := by decide +kernel
theorem dX6_worthBy_59 : decode cX6_worthBy 59 = .ok (.iconst 1, 1) := by decide +kernel
theorem dX6_worthBy_60 : decode cX6_worthBy 60 = .ok (.isub, 1) := by decide +kernel
theorem dX6_worthBy_61 : decode cX6_worthBy 61 = .ok (.laload, 1) := by decide +kernel
theorem dX6_worthBy_62 : decode cX6_worthBy 62 = .ok (.lconst 0, 1) := by decide +kernel
theorem dX6_worthBy_63 : decode cX6_worthBy 63 = .ok (.lcmp, 1) := by decide +kernel
theorem dX6_worthBy_64 : decode cX6_worthBy 64 = .ok (.ifCond .eq 7, 3) := by decide +kernel
theorem dX6_worthBy_67 : decode cX6_worthBy 67 = .ok (.iconst 1, 1) := by decide +kernel
theorem dX6_worthBy_68 : decode cX6_worthBy 68 = .ok (.goto 4, 3) := by decide +kernel
theorem dX6_worthBy_71 : decode cX6_worthBy 71 = .ok (.iconst 0, 1) := by decide +kernel
theorem dX6_worthBy_72 : decode cX6_worthBy 72 = .ok (.istore 6, 2) := by decide +kernel
theorem dX6_worthBy_74 : decode cX6_worthBy 74 = .ok (.iconst 0, 1) := by decide +kernel
theorem dX6_worthBy_75 : decode cX6_worthBy 75 = .ok (.istore_n 3, 1) := by decide +kernel
theorem dX6_worthBy_76 : decode cX6_worthBy 76 = .ok (.iload 6, 2) := by decide +kernel
theorem dX6_worthBy_78 : decode cX6_worthBy 78 = .ok (.ifCond .eq 8, 3) := by decide +kernel
theorem dX6_worthBy_81 : decode cX6_worthBy 81 = .ok (.iload 4, 2) := by decide +kernel
theorem dX6_worthBy_83 : decode cX6_worthBy 83 = .ok (.goto 16, 3) := by decide +kernel
theorem dX6_worthBy_86 : decode cX6_worthBy 86 = .ok (.iload 4, 2) := by decide +kernel
theorem dX6_worthBy_88 : decode cX6_worthBy 88 = .ok (.iload 5, 2) := by decide +kernel
theorem dX6_worthBy_90 : decode cX6_worthBy 90 = .ok (.sipush 20000, 3) := by decide +kernel
theorem dX6_worthBy_93 : decode cX6_worthBy 93 = .ok (.isub, 1) := by decide +kernel
theorem dX6_worthBy_94 : decode cX6_worthBy 94 = .ok (.iconst 1, 1) := by decide +kernel
theorem dX6_worthBy_95 : decode cX6_worthBy 95 = .ok (.isub, 1) := by decide +kernel
theorem dX6_worthBy_96 : decode cX6_worthBy 96 = .ok (.invokestatic 25, 3) := by decide +kernel
theorem dX6_worthBy_99 : decode cX6_worthBy 99 = .ok (.istore 4, 2) := by decide +kernel
theorem dX6_worthBy_101 : decode cX6_worthBy 101 = .ok (.goto 55, 3) := by decide +kernel
theorem dX6_worthBy_104 : decode cX6_worthBy 104 = .ok (.iload 5, 2) := by decide +kernel
theorem dX6_worthBy_106 : decode cX6_worthBy 106 = .ok (.ifCond .ge 15, 3) := by decide +kernel
theorem dX6_worthBy_109 : decode cX6_worthBy 109 = .ok (.iload 5, 2) := by decide +kernel
theorem dX6_worthBy_111 : decode cX6_worthBy 111 = .ok (.ineg, 1) := by decide +kernel
theorem dX6_worthBy_112 : decode cX6_worthBy 112 = .ok (.aload_n 2, 1) := by decide +kernel
theorem dX6_worthBy_113 : decode cX6_worthBy 113 = .ok (.iload_n 3, 1) := by decide +kernel
theorem dX6_worthBy_114 : decode cX6_worthBy 114 = .ok (.invokestatic 31, 3) := by decide +kernel
theorem dX6_worthBy_117 : decode cX6_worthBy 117 = .ok (.istore_n 3, 1) := by decide +kernel
theorem dX6_worthBy_118 : decode cX6_worthBy 118 = .ok (.goto 38, 3) := by decide +kernel
theorem dX6_worthBy_121 : decode cX6_worthBy 121 = .ok (.iload_n 3, 1) := by decide +kernel
theorem dX6_worthBy_122 : decode cX6_worthBy 122 = .ok (.aload_n 2, 1) := by decide +kernel
theorem dX6_worthBy_123 : decode cX6_worthBy 123 = .ok (.arraylength, 1) := by decide +kernel
theorem dX6_worthBy_124 : decode cX6_worthBy 124 = .ok (.if_icmp .ge 32, 3) := by decide +kernel
theorem dX6_worthBy_127 : decode cX6_worthBy 127 = .ok (.aload_n 2, 1) := by decide +kernel
theorem dX6_worthBy_128 : decode cX6_worthBy 128 = .ok (.iload_n 3, 1) := by decide +kernel
theorem dX6_worthBy_129 : decode cX6_worthBy 129 = .ok (.iload 5, 2) := by decide +kernel
theorem dX6_worthBy_131 : decode cX6_worthBy 131 = .ok (.sipush 10000, 3) := by decide +kernel
theorem dX6_worthBy_134 : decode cX6_worthBy 134 = .ok (.if_icmp .lt 15, 3) := by decide +kernel
theorem dX6_worthBy_137 : decode cX6_worthBy 137 = .ok (.aload_n 1, 1) := by decide +kernel
theorem dX6_worthBy_138 : decode cX6_worthBy 138 = .ok (.iload 5, 2) := by decide +kernel
theorem dX6_worthBy_140 : decode cX6_worthBy 140 = .ok (.sipush 10000, 3) := by decide +kernel
theorem dX6_worthBy_143 : decode cX6_worthBy 143 = .ok (.isub, 1) := by decide +kernel
theorem dX6_worthBy_144 : decode cX6_worthBy 144 = .ok (.iaload, 1) := by decide +kernel
theorem dX6_worthBy_145 : decode cX6_worthBy 145 = .ok (.i2l, 1) := by decide +kernel
theorem dX6_worthBy_146 : decode cX6_worthBy 146 = .ok (.goto 6, 3) := by decide +kernel
theorem dX6_worthBy_149 : decode cX6_worthBy 149 = .ok (.iload 5, 2) := by decide +kernel
theorem dX6_worthBy_151 : decode cX6_worthBy 151 = .ok (.i2l, 1) := by decide +kernel
theorem dX6_worthBy_152 : decode cX6_worthBy 152 = .ok (.lastore, 1) := by decide +kernel
theorem dX6_worthBy_153 : decode cX6_worthBy 153 = .ok (.iinc 3 1, 3) := by decide +kernel
theorem dX6_worthBy_156 : decode cX6_worthBy 156 = .ok (.iinc 4 1, 3) := by decide +kernel
theorem dX6_worthBy_159 : decode cX6_worthBy 159 = .ok (.goto (-154), 3) := by decide +kernel
theorem dX6_worthBy_162 : decode cX6_worthBy 162 = .ok (.iconst 0, 1) := by decide +kernel
theorem dX6_worthBy_163 : decode cX6_worthBy 163 = .ok (.ireturn, 1) := by decide +kernel
theorem dX6_reckon_0 : decode cX6_reckon 0 = .ok (.iload_n 0, 1) := by decide +kernel
theorem dX6_reckon_1 : decode cX6_reckon 1 = .ok (.bipush 33, 2) := by decide +kernel
theorem dX6_reckon_3 : decode cX6_reckon 3 = .ok (.if_icmp .ne 30, 3) := by decide +kernel
theorem dX6_reckon_6 : decode cX6_reckon 6 = .ok (.iload_n 2, 1) := by decide +kernel
theorem dX6_reckon_7 : decode cX6_reckon 7 = .ok (.iconst 1, 1) := by decide +kernel
theorem dX6_reckon_8 : decode cX6_reckon 8 = .ok (.if_icmp .lt 25, 3) := by decide +kernel
theorem dX6_reckon_11 : decode cX6_reckon 11 = .ok (.aload_n 1, 1) := by decide +kernel
theorem dX6_reckon_12 : decode cX6_reckon 12 = .ok (.iload_n 2, 1) := by decide +kernel
theorem dX6_reckon_13 : decode cX6_reckon 13 = .ok (.iconst 1, 1) := by decide +kernel
theorem dX6_reckon_14 : decode cX6_reckon 14 = .ok (.isub, 1) := by decide +kernel
theorem dX6_reckon_15 : decode cX6_reckon 15 = .ok (.aload_n 1, 1) := by decide +kernel
theorem dX6_reckon_16 : decode cX6_reckon 16 = .ok (.iload_n 2, 1) := by decide +kernel
theorem dX6_reckon_17 : decode cX6_reckon 17 = .ok (.iconst 1, 1) := by decide +kernel
theorem dX6_reckon_18 : decode cX6_reckon 18 = .ok (.isub, 1) := by decide +kernel
theorem dX6_reckon_19 : decode cX6_reckon 19 = .ok (.laload, 1) := by decide +kernel
theorem dX6_reckon_20 : decode cX6_reckon 20 = .ok (.lconst 0, 1) := by decide +kernel
theorem dX6_reckon_21 : decode cX6_reckon 21 = .ok (.lcmp, 1) := by decide +kernel
theorem dX6_reckon_22 : decode cX6_reckon 22 = .ok (.ifCond .ne 7, 3) := by decide +kernel
theorem dX6_reckon_25 : decode cX6_reckon 25 = .ok (.lconst 1, 1) := by decide +kernel
theorem dX6_reckon_26 : decode cX6_reckon 26 = .ok (.goto 4, 3) := by decide +kernel
theorem dX6_reckon_29 : decode cX6_reckon 29 = .ok (.lconst 0, 1) := by decide +kernel
theorem dX6_reckon_30 : decode cX6_reckon 30 = .ok (.lastore, 1) := by decide +kernel
theorem dX6_reckon_31 : decode cX6_reckon 31 = .ok (.iload_n 2, 1) := by decide +kernel
theorem dX6_reckon_32 : decode cX6_reckon 32 = .ok (.ireturn, 1) := by decide +kernel
theorem dX6_reckon_33 : decode cX6_reckon 33 = .ok (.iload_n 2, 1) := by decide +kernel
theorem dX6_reckon_34 : decode cX6_reckon 34 = .ok (.iconst 2, 1) := by decide +kernel
theorem dX6_reckon_35 : decode cX6_reckon 35 = .ok (.if_icmp .ge 5, 3) := by decide +kernel
theorem dX6_reckon_38 : decode cX6_reckon 38 = .ok (.iload_n 2, 1) := by decide +kernel
theorem dX6_reckon_39 : decode cX6_reckon 39 = .ok (.ireturn, 1) := by decide +kernel
theorem dX6_reckon_40 : decode cX6_reckon 40 = .ok (.aload_n 1, 1) := by decide +kernel
theorem dX6_reckon_41 : decode cX6_reckon 41 = .ok (.iload_n 2, 1) := by decide +kernel
theorem dX6_reckon_42 : decode cX6_reckon 42 = .ok (.iconst 2, 1) := by decide +kernel
theorem dX6_reckon_43 : decode cX6_reckon 43 = .ok (.isub, 1) := by decide +kernel
theorem dX6_reckon_44 : decode cX6_reckon 44 = .ok (.iload_n 0, 1) := by decide +kernel
theorem dX6_reckon_45 : decode cX6_reckon 45 = .ok (.aload_n 1, 1) := by decide +kernel
theorem dX6_reckon_46 : decode cX6_reckon 46 = .ok (.iload_n 2, 1) := by decide +kernel
theorem dX6_reckon_47 : decode cX6_reckon 47 = .ok (.iconst 2, 1) := by decide +kernel
theorem dX6_reckon_48 : decode cX6_reckon 48 = .ok (.isub, 1) := by decide +kernel
theorem dX6_reckon_49 : decode cX6_reckon 49 = .ok (.laload, 1) := by decide +kernel
theorem dX6_reckon_50 : decode cX6_reckon 50 = .ok (.aload_n 1, 1) := by decide +kernel
theorem dX6_reckon_51 : decode cX6_reckon 51 = .ok (.iload_n 2, 1) := by decide +kernel
theorem dX6_reckon_52 : decode cX6_reckon 52 = .ok (.iconst 1, 1) := by decide +kernel
theorem dX6_reckon_53 : decode cX6_reckon 53 = .ok (.isub, 1) := by decide +kernel
theorem dX6_reckon_54 : decode cX6_reckon 54 = .ok (.laload, 1) := by decide +kernel
theorem dX6_reckon_55 : decode cX6_reckon 55 = .ok (.invokestatic 35, 3) := by decide +kernel
theorem dX6_reckon_58 : decode cX6_reckon 58 = .ok (.lastore, 1) := by decide +kernel
theorem dX6_reckon_59 : decode cX6_reckon 59 = .ok (.iload_n 2, 1) := by decide +kernel
theorem dX6_reckon_60 : decode cX6_reckon 60 = .ok (.iconst 1, 1) := by decide +kernel
theorem dX6_reckon_61 : decode cX6_reckon 61 = .ok (.isub, 1) := by decide +kernel
theorem dX6_reckon_62 : decode cX6_reckon 62 = .ok (.ireturn, 1) := by decide +kernel
theorem dX6_joined_0 : decode cX6_joined 0 = .ok (.iload_n 0, 1) := by decide +kernel
theorem dX6_joined_1 : decode cX6_joined 1 = .ok (.tableswitch 193 38 62 #[189, 193, 193, 193, 129, 115, 193, 122, 193, 136, 193, 193, 193, 193, 193, 193, 193, 193, 193, 193, 193, 193, 165, 153, 177], 115) := by decide +kernel
theorem dX6_joined_116 : decode cX6_joined 116 = .ok (.lload_n 1, 1) := by decide +kernel
theorem dX6_joined_117 : decode cX6_joined 117 = .ok (.lload_n 3, 1) := by decide +kernel
theorem dX6_joined_118 : decode cX6_joined 118 = .ok (.ladd, 1) := by decide +kernel
theorem dX6_joined_119 : decode cX6_joined 119 = .ok (.invokestatic 39, 3) := by decide +kernel
theorem dX6_joined_122 : decode cX6_joined 122 = .ok (.lreturn, 1) := by decide +kernel
theorem dX6_joined_123 : decode cX6_joined 123 = .ok (.lload_n 1, 1) := by decide +kernel
theorem dX6_joined_124 : decode cX6_joined 124 = .ok (.lload_n 3, 1) := by decide +kernel
theorem dX6_joined_125 : decode cX6_joined 125 = .ok (.lsub, 1) := by decide +kernel
theorem dX6_joined_126 : decode cX6_joined 126 = .ok (.invokestatic 39, 3) := by decide +kernel
theorem dX6_joined_129 : decode cX6_joined 129 = .ok (.lreturn, 1) := by decide +kernel
theorem dX6_joined_130 : decode cX6_joined 130 = .ok (.lload_n 1, 1) := by decide +kernel
theorem dX6_joined_131 : decode cX6_joined 131 = .ok (.lload_n 3, 1) := by decide +kernel
theorem dX6_joined_132 : decode cX6_joined 132 = .ok (.lmul, 1) := by decide +kernel
theorem dX6_joined_133 : decode cX6_joined 133 = .ok (.invokestatic 39, 3) := by decide +kernel
theorem dX6_joined_136 : decode cX6_joined 136 = .ok (.lreturn, 1) := by decide +kernel
theorem dX6_joined_137 : decode cX6_joined 137 = .ok (.lload_n 3, 1) := by decide +kernel
theorem dX6_joined_138 : decode cX6_joined 138 = .ok (.lconst 0, 1) := by decide +kernel
theorem dX6_joined_139 : decode cX6_joined 139 = .ok (.lcmp, 1) := by decide +kernel
theorem dX6_joined_140 : decode cX6_joined 140 = .ok (.ifCond .ne 7, 3) := by decide +kernel
theorem dX6_joined_143 : decode cX6_joined 143 = .ok (.lconst 0, 1) := by decide +kernel
theorem dX6_joined_144 : decode cX6_joined 144 = .ok (.goto 9, 3) := by decide +kernel
theorem dX6_joined_147 : decode cX6_joined 147 = .ok (.lload_n 1, 1) := by decide +kernel
theorem dX6_joined_148 : decode cX6_joined 148 = .ok (.lload_n 3, 1) := by decide +kernel
theorem dX6_joined_149 : decode cX6_joined 149 = .ok (.ldiv, 1) := by decide +kernel
theorem dX6_joined_150 : decode cX6_joined 150 = .ok (.invokestatic 39, 3) := by decide +kernel
theorem dX6_joined_153 : decode cX6_joined 153 = .ok (.lreturn, 1) := by decide +kernel
theorem dX6_joined_154 : decode cX6_joined 154 = .ok (.lload_n 1, 1) := by decide +kernel
theorem dX6_joined_155 : decode cX6_joined 155 = .ok (.lload_n 3, 1) := by decide +kernel
theorem dX6_joined_156 : decode cX6_joined 156 = .ok (.lcmp, 1) := by decide +kernel
theorem dX6_joined_157 : decode cX6_joined 157 = .ok (.ifCond .ne 7, 3) := by decide +kernel
theorem dX6_joined_160 : decode cX6_joined 160 = .ok (.lconst 1, 1) := by decide +kernel
theorem dX6_joined_161 : decode cX6_joined 161 = .ok (.goto 4, 3) := by decide +kernel
theorem dX6_joined_164 : decode cX6_joined 164 = .ok (.lconst 0, 1) := by decide +kernel
theorem dX6_joined_165 : decode cX6_joined 165 = .ok (.lreturn, 1) := by decide +kernel
theorem dX6_joined_166 : decode cX6_joined 166 = .ok (.lload_n 1, 1) := by decide +kernel
theorem dX6_joined_167 : decode cX6_joined 167 = .ok (.lload_n 3, 1) := by decide +kernel
theorem dX6_joined_168 : decode cX6_joined 168 = .ok (.lcmp, 1) := by decide +kernel
theorem dX6_joined_169 : decode cX6_joined 169 = .ok (.ifCond .ge 7, 3) := by decide +kernel
theorem dX6_joined_172 : decode cX6_joined 172 = .ok (.lconst 1, 1) := by decide +kernel
theorem dX6_joined_173 : decode cX6_joined 173 = .ok (.goto 4, 3) := by decide +kernel
theorem dX6_joined_176 : decode cX6_joined 176 = .ok (.lconst 0, 1) := by decide +kernel
theorem dX6_joined_177 : decode cX6_joined 177 = .ok (.lreturn, 1) := by decide +kernel
theorem dX6_joined_178 : decode cX6_joined 178 = .ok (.lload_n 1, 1) := by decide +kernel
theorem dX6_joined_179 : decode cX6_joined 179 = .ok (.lload_n 3, 1) := by decide +kernel
theorem dX6_joined_180 : decode cX6_joined 180 = .ok (.lcmp, 1) := by decide +kernel
theorem dX6_joined_181 : decode cX6_joined 181 = .ok (.ifCond .le 7, 3) := by decide +kernel
theorem dX6_joined_184 : decode cX6_joined 184 = .ok (.lconst 1, 1) := by decide +kernel
theorem dX6_joined_185 : decode cX6_joined 185 = .ok (.goto 4, 3) := by decide +kernel
theorem dX6_joined_188 : decode cX6_joined 188 = .ok (.lconst 0, 1) := by decide +kernel
theorem dX6_joined_189 : decode cX6_joined 189 = .ok (.lreturn, 1) := by decide +kernel
theorem dX6_joined_190 : decode cX6_joined 190 = .ok (.lload_n 1, 1) := by decide +kernel
theorem dX6_joined_191 : decode cX6_joined 191 = .ok (.lload_n 3, 1) := by decide +kernel
theorem dX6_joined_192 : decode cX6_joined 192 = .ok (.land, 1) := by decide +kernel
theorem dX6_joined_193 : decode cX6_joined 193 = .ok (.lreturn, 1) := by decide +kernel
theorem dX6_joined_194 : decode cX6_joined 194 = .ok (.lload_n 1, 1) := by decide +kernel
theorem dX6_joined_195 : decode cX6_joined 195 = .ok (.lload_n 3, 1) := by decide +kernel
theorem dX6_joined_196 : decode cX6_joined 196 = .ok (.lor, 1) := by decide +kernel
theorem dX6_joined_197 : decode cX6_joined 197 = .ok (.lreturn, 1) := by decide +kernel
theorem dX6_within_0 : decode cX6_within 0 = .ok (.ldc2_w 43, 3) := by decide +kernel
theorem dX6_within_3 : decode cX6_within 3 = .ok (.ldc2_w 45, 3) := by decide +kernel
theorem dX6_within_6 : decode cX6_within 6 = .ok (.lload_n 0, 1) := by decide +kernel
theorem dX6_within_7 : decode cX6_within 7 = .ok (.invokestatic 47, 3) := by decide +kernel
theorem dX6_within_10 : decode cX6_within 10 = .ok (.invokestatic 51, 3) := by decide +kernel
theorem dX6_within_13 : decode cX6_within 13 = .ok (.lreturn, 1) := by decide +kernel
theorem dX7_init_0 : decode cX7_init 0 = .ok (.aload_n 0, 1) := by decide +kernel
theorem dX7_init_1 : decode cX7_init 1 = .ok (.invokespecial 3, 3) := by decide +kernel
theorem dX7_init_4 : decode cX7_init 4 = .ok (.aload_n 0, 1) := by decide +kernel
theorem dX7_init_5 : decode cX7_init 5 = .ok (.new 9, 3) := by decide +kernel
theorem dX7_init_8 : decode cX7_init 8 = .ok (.dup, 1) := by decide +kernel
theorem dX7_init_9 : decode cX7_init 9 = .ok (.invokespecial 11, 3) := by decide +kernel
theorem dX7_init_12 : decode cX7_init 12 = .ok (.putfield 12, 3) := by decide +kernel
theorem dX7_init_15 : decode cX7_init 15 = .ok (.aload_n 0, 1) := by decide +kernel
theorem dX7_init_16 : decode cX7_init 16 = .ok (.sipush 200, 3) := by decide +kernel
theorem dX7_init_19 : decode cX7_init 19 = .ok (.newarray .long, 2) := by decide +kernel
theorem dX7_init_21 : decode cX7_init 21 = .ok (.putfield 18, 3) := by decide +kernel
theorem dX7_init_24 : decode cX7_init 24 = .ok (.aload_n 0, 1) := by decide +kernel
theorem dX7_init_25 : decode cX7_init 25 = .ok (.sipush 200, 3) := by decide +kernel
theorem dX7_init_28 : decode cX7_init 28 = .ok (.newarray .int, 2) := by decide +kernel
theorem dX7_init_30 : decode cX7_init 30 = .ok (.putfield 22, 3) := by decide +kernel
theorem dX7_init_33 : decode cX7_init 33 = .ok (.aload_n 0, 1) := by decide +kernel
theorem dX7_init_34 : decode cX7_init 34 = .ok (.sipush 200, 3) := by decide +kernel
theorem dX7_init_37 : decode cX7_init 37 = .ok (.newarray .int, 2) := by decide +kernel
theorem dX7_init_39 : decode cX7_init 39 = .ok (.putfield 26, 3) := by decide +kernel
theorem dX7_init_42 : decode cX7_init 42 = .ok (.return_, 1) := by decide +kernel
theorem dX7_read_0 : decode cX7_read 0 = .ok (.aload_n 0, 1) := by decide +kernel
theorem dX7_read_1 : decode cX7_read 1 = .ok (.invokevirtual 29, 3) := by decide +kernel
theorem dX7_read_4 : decode cX7_read 4 = .ok (.iconst 0, 1) := by decide +kernel
theorem dX7_read_5 : decode cX7_read 5 = .ok (.istore_n 2, 1) := by decide +kernel
theorem dX7_read_6 : decode cX7_read 6 = .ok (.iload_n 2, 1) := by decide +kernel
theorem dX7_read_7 : decode cX7_read 7 = .ok (.aload_n 1, 1) := by decide +kernel
theorem dX7_read_8 : decode cX7_read 8 = .ok (.getfield 32, 3) := by decide +kernel
theorem dX7_read_11 : decode cX7_read 11 = .ok (.if_icmp .ge 23, 3) := by decide +kernel
theorem dX7_read_14 : decode cX7_read 14 = .ok (.aload_n 0, 1) := by decide +kernel
theorem dX7_read_15 : decode cX7_read 15 = .ok (.aload_n 1, 1) := by decide +kernel
theorem dX7_read_16 : decode cX7_read 16 = .ok (.iload_n 2, 1) := by decide +kernel
theorem dX7_read_17 : decode cX7_read 17 = .ok (.invokevirtual 38, 3) := by decide +kernel
theorem dX7_read_20 : decode cX7_read 20 = .ok (.invokevirtual 42, 3) := by decide +kernel
theorem dX7_read_23 : decode cX7_read 23 = .ok (.ifCond .ne 5, 3) := by decide +kernel
theorem dX7_read_26 : decode cX7_read 26 = .ok (.iload_n 2, 1) := by decide +kernel
theorem dX7_read_27 : decode cX7_read 27 = .ok (.ireturn, 1) := by decide +kernel
theorem dX7_read_28 : decode cX7_read 28 = .ok (.iinc 2 1, 3) := by decide +kernel
theorem dX7_read_31 : decode cX7_read 31 = .ok (.goto (-25), 3) := by decide +kernel
theorem dX7_read_34 : decode cX7_read 34 = .ok (.aload_n 0, 1) := by decide +kernel
theorem dX7_read_35 : decode cX7_read 35 = .ok (.getfield 46, 3) := by decide +kernel
theorem dX7_read_38 : decode cX7_read 38 = .ok (.iconst 4, 1) := by decide +kernel
theorem dX7_read_39 : decode cX7_read 39 = .ok (.if_icmp .ne 14, 3) := by decide +kernel
theorem dX7_read_42 : decode cX7_read 42 = .ok (.aload_n 0, 1) := by decide +kernel
theorem dX7_read_43 : decode cX7_read 43 = .ok (.invokevirtual 49, 3) := by decide +kernel
theorem dX7_read_46 : decode cX7_read 46 = .ok (.ifCond .eq 7, 3) := by decide +kernel
theorem dX7_read_49 : decode cX7_read 49 = .ok (.iconst (-1), 1) := by decide +kernel
theorem dX7_read_50 : decode cX7_read 50 = .ok (.goto 7, 3) := by decide +kernel
theorem dX7_read_53 : decode cX7_read 53 = .ok (.aload_n 1, 1) := by decide +kernel
theorem dX7_read_54 : decode cX7_read 54 = .ok (.getfield 32, 3) := by decide +kernel
theorem dX7_read_57 : decode cX7_read 57 = .ok (.ireturn, 1) := by decide +kernel
theorem dX7_begin_0 : decode cX7_begin 0 = .ok (.aload_n 0, 1) := by decide +kernel
theorem dX7_begin_1 : decode cX7_begin 1 = .ok (.getfield 12, 3) := by decide +kernel
theorem dX7_begin_4 : decode cX7_begin 4 = .ok (.iconst 0, 1) := by decide +kernel
theorem dX7_begin_5 : decode cX7_begin 5 = .ok (.putfield 53, 3) := by decide +kernel
theorem dX7_begin_8 : decode cX7_begin 8 = .ok (.aload_n 0, 1) := by decide +kernel
theorem dX7_begin_9 : decode cX7_begin 9 = .ok (.iconst 0, 1) := by decide +kernel
theorem dX7_begin_10 : decode cX7_begin 10 = .ok (.putfield 56, 3) := by decide +kernel
theorem dX7_begin_13 : decode cX7_begin 13 = .ok (.aload_n 0, 1) := by decide +kernel
theorem dX7_begin_14 : decode cX7_begin 14 = .ok (.iconst 0, 1) := by decide +kernel
theorem dX7_begin_15 : decode cX7_begin 15 = .ok (.putfield 46, 3) := by decide +kernel
theorem dX7_begin_18 : decode cX7_begin 18 = .ok (.aload_n 0, 1) := by decide +kernel
theorem dX7_begin_19 : decode cX7_begin 19 = .ok (.iconst 0, 1) := by decide +kernel
theorem dX7_begin_20 : decode cX7_begin 20 = .ok (.putfield 59, 3) := by decide +kernel
theorem dX7_begin_23 : decode cX7_begin 23 = .ok (.aload_n 0, 1) := by decide +kernel
theorem dX7_begin_24 : decode cX7_begin 24 = .ok (.iconst 0, 1) := by decide +kernel
theorem dX7_begin_25 : decode cX7_begin 25 = .ok (.putfield 62, 3) := by decide +kernel
theorem dX7_begin_28 : decode cX7_begin 28 = .ok (.aload_n 0, 1) := by decide +kernel
theorem dX7_begin_29 : decode cX7_begin 29 = .ok (.iconst 0, 1) := by decide +kernel
theorem dX7_begin_30 : decode cX7_begin 30 = .ok (.putfield 65, 3) := by decide +kernel
theorem dX7_begin_33 : decode cX7_begin 33 = .ok (.aload_n 0, 1) := by decide +kernel
theorem dX7_begin_34 : decode cX7_begin 34 = .ok (.iconst 0, 1) := by decide +kernel
theorem dX7_begin_35 : decode cX7_begin 35 = .ok (.putfield 68, 3) := by decide +kernel
theorem dX7_begin_38 : decode cX7_begin 38 = .ok (.aload_n 0, 1) := by decide +kernel
theorem dX7_begin_39 : decode cX7_begin 39 = .ok (.iconst (-1), 1) := by decide +kernel
theorem dX7_begin_40 : decode cX7_begin 40 = .ok (.putfield 71, 3) := by decide +kernel
theorem dX7_begin_43 : decode cX7_begin 43 = .ok (.return_, 1) := by decide +kernel
theorem dX7_takes_0 : decode cX7_takes 0 = .ok (.iload_n 1, 1) := by decide +kernel
theorem dX7_takes_1 : decode cX7_takes 1 = .ok (.invokestatic 74, 3) := by decide +kernel
theorem dX7_takes_4 : decode cX7_takes 4 = .ok (.ifCond .eq 12, 3) := by decide +kernel
theorem dX7_takes_7 : decode cX7_takes 7 = .ok (.aload_n 0, 1) := by decide +kernel
theorem dX7_takes_8 : decode cX7_takes 8 = .ok (.iload_n 1, 1) := by decide +kernel
theorem dX7_takes_9 : decode cX7_takes 9 = .ok (.bipush 48, 2) := by decide +kernel
theorem dX7_takes_11 : decode cX7_takes 11 = .ok (.isub, 1) := by decide +kernel
theorem dX7_takes_12 : decode cX7_takes 12 = .ok (.invokevirtual 77, 3) := by decide +kernel
theorem dX7_takes_15 : decode cX7_takes 15 = .ok (.ireturn, 1) := by decide +kernel
theorem dX7_takes_16 : decode cX7_takes 16 = .ok (.aload_n 0, 1) := by decide +kernel
theorem dX7_takes_17 : decode cX7_takes 17 = .ok (.iconst 0, 1) := by decide +kernel
theorem dX7_takes_18 : decode cX7_takes 18 = .ok (.putfield 68, 3) := by decide +kernel
theorem dX7_takes_21 : decode cX7_takes 21 = .ok (.iload_n 1, 1) := by decide +kernel
theorem dX7_takes_22 : decode cX7_takes 22 = .ok (.bipush 32, 2) := by decide +kernel
theorem dX7_takes_24 : decode cX7_takes 24 = .ok (.if_icmp .ne 5, 3) := by decide +kernel
theorem dX7_takes_27 : decode cX7_takes 27 = .ok (.iconst 1, 1) := by decide +kernel
theorem dX7_takes_28 : decode cX7_takes 28 = .ok (.ireturn, 1) := by decide +kernel
theorem dX7_takes_29 : decode cX7_takes 29 = .ok (.aload_n 0, 1) := by decide +kernel
theorem dX7_takes_30 : decode cX7_takes 30 = .ok (.getfield 46, 3) := by decide +kernel
theorem dX7_takes_33 : decode cX7_takes 33 = .ok (.tableswitch 102 0 3 #[31, 48, 70, 96], 31) := by decide +kernel
theorem dX7_takes_64 : decode cX7_takes 64 = .ok (.aload_n 0, 1) := by decide +kernel
theorem dX7_takes_65 : decode cX7_takes 65 = .ok (.iconst 1, 1) := by decide +kernel
theorem dX7_takes_66 : decode cX7_takes 66 = .ok (.putfield 46, 3) := by decide +kernel
theorem dX7_takes_69 : decode cX7_takes 69 = .ok (.iload_n 1, 1) := by decide +kernel
theorem dX7_takes_70 : decode cX7_takes 70 = .ok (.bipush 119, 2) := by decide +kernel
theorem dX7_takes_72 : decode cX7_takes 72 = .ok (.if_icmp .ne 7, 3) := by decide +kernel
theorem dX7_takes_75 : decode cX7_takes 75 = .ok (.iconst 1, 1) := by decide +kernel
theorem dX7_takes_76 : decode cX7_takes 76 = .ok (.goto 4, 3) := by decide +kernel
theorem dX7_takes_79 : decode cX7_takes 79 = .ok (.iconst 0, 1) := by decide +kernel
theorem dX7_takes_80 : decode cX7_takes 80 = .ok (.ireturn, 1) := by decide +kernel
theorem dX7_takes_81 : decode cX7_takes 81 = .ok (.aload_n 0, 1) := by decide +kernel
theorem dX7_takes_82 : decode cX7_takes 82 = .ok (.iconst 2, 1) := by decide +kernel
theorem dX7_takes_83 : decode cX7_takes 83 = .ok (.putfield 46, 3) := by decide +kernel
theorem dX7_takes_86 : decode cX7_takes 86 = .ok (.aload_n 0, 1) := by decide +kernel
theorem dX7_takes_87 : decode cX7_takes 87 = .ok (.iconst 0, 1) := by decide +kernel
theorem dX7_takes_88 : decode cX7_takes 88 = .ok (.putfield 59, 3) := by decide +kernel
theorem dX7_takes_91 : decode cX7_takes 91 = .ok (.iload_n 1, 1) := by decide +kernel
theorem dX7_takes_92 : decode cX7_takes 92 = .ok (.bipush 58, 2) := by decide +kernel
theorem dX7_takes_94 : decode cX7_takes 94 = .ok (.if_icmp .ne 7, 3) := by decide +kernel
theorem dX7_takes_97 : decode cX7_takes 97 = .ok (.iconst 1, 1) := by decide +kernel
theorem dX7_takes_98 : decode cX7_takes 98 = .ok (.goto 4, 3) := by decide +kernel
theorem dX7_takes_101 : decode cX7_takes 101 = .ok (.iconst 0, 1) := by decide +kernel
theorem dX7_takes_102 : decode cX7_takes 102 = .ok (.ireturn, 1) := by decide +kernel
theorem dX7_takes_103 : decode cX7_takes 103 = .ok (.iload_n 1, 1) := by decide +kernel
theorem dX7_takes_104 : decode cX7_takes 104 = .ok (.bipush 33, 2) := by decide +kernel
theorem dX7_takes_106 : decode cX7_takes 106 = .ok (.if_icmp .eq 9, 3) := by decide +kernel
theorem dX7_takes_109 : decode cX7_takes 109 = .ok (.iload_n 1, 1) := by decide +kernel
theorem dX7_takes_110 : decode cX7_takes 110 = .ok (.bipush 40, 2) := by decide +kernel
theorem dX7_takes_112 : decode cX7_takes 112 = .ok (.if_icmp .ne 11, 3) := by decide +kernel
theorem dX7_takes_115 : decode cX7_takes 115 = .ok (.aload_n 0, 1) := by decide +kernel
theorem dX7_takes_116 : decode cX7_takes 116 = .ok (.iload_n 1, 1) := by decide +kernel
theorem dX7_takes_117 : decode cX7_takes 117 = .ok (.invokevirtual 80, 3) := by decide +kernel
theorem dX7_takes_120 : decode cX7_takes 120 = .ok (.goto 8, 3) := by decide +kernel
theorem dX7_takes_123 : decode cX7_takes 123 = .ok (.aload_n 0, 1) := by decide +kernel
theorem dX7_takes_124 : decode cX7_takes 124 = .ok (.iload_n 1, 1) := by decide +kernel
theorem dX7_takes_125 : decode cX7_takes 125 = .ok (.invokevirtual 83, 3) := by decide +kernel
theorem dX7_takes_128 : decode cX7_takes 128 = .ok (.ireturn, 1) := by decide +kernel
theorem dX7_takes_129 : decode cX7_takes 129 = .ok (.aload_n 0, 1) := by decide +kernel
theorem dX7_takes_130 : decode cX7_takes 130 = .ok (.iload_n 1, 1) := by decide +kernel
theorem dX7_takes_131 : decode cX7_takes 131 = .ok (.invokevirtual 83, 3) := by decide +kernel
theorem dX7_takes_134 : decode cX7_takes 134 = .ok (.ireturn, 1) := by decide +kernel
theorem dX7_takes_135 : decode cX7_takes 135 = .ok (.aload_n 0, 1) := by decide +kernel
theorem dX7_takes_136 : decode cX7_takes 136 = .ok (.iload_n 1, 1) := by decide +kernel
theorem dX7_takes_137 : decode cX7_takes 137 = .ok (.invokevirtual 86, 3) := by decide +kernel
theorem dX7_takes_140 : decode cX7_takes 140 = .ok (.ireturn, 1) := by decide +kernel
theorem dX7_takesDigit_0 : decode cX7_takesDigit 0 = .ok (.aload_n 0, 1) := by decide +kernel
theorem dX7_takesDigit_1 : decode cX7_takesDigit 1 = .ok (.getfield 68, 3) := by decide +kernel
theorem dX7_takesDigit_4 : decode cX7_takesDigit 4 = .ok (.ifCond .le 60, 3) := by decide +kernel
theorem dX7_takesDigit_7 : decode cX7_takesDigit 7 = .ok (.aload_n 0, 1) := by decide +kernel
theorem dX7_takesDigit_8 : decode cX7_takesDigit 8 = .ok (.getfield 68, 3) := by decide +kernel
theorem dX7_takesDigit_11 : decode cX7_takesDigit 11 = .ok (.iconst 4, 1) := by decide +kernel
theorem dX7_takesDigit_12 : decode cX7_takesDigit 12 = .ok (.if_icmp .ge 52, 3) := by decide +kernel
theorem dX7_takesDigit_15 : decode cX7_takesDigit 15 = .ok (.aload_n 0, 1) := by decide +kernel
theorem dX7_takesDigit_16 : decode cX7_takesDigit 16 = .ok (.getfield 12, 3) := by decide +kernel
theorem dX7_takesDigit_19 : decode cX7_takesDigit 19 = .ok (.getfield 53, 3) := by decide +kernel
theorem dX7_takesDigit_22 : decode cX7_takesDigit 22 = .ok (.iconst 1, 1) := by decide +kernel
theorem dX7_takesDigit_23 : decode cX7_takesDigit 23 = .ok (.isub, 1) := by decide +kernel
theorem dX7_takesDigit_24 : decode cX7_takesDigit 24 = .ok (.istore_n 2, 1) := by decide +kernel
theorem dX7_takesDigit_25 : decode cX7_takesDigit 25 = .ok (.iload_n 2, 1) := by decide +kernel
theorem dX7_takesDigit_26 : decode cX7_takesDigit 26 = .ok (.ifCond .lt 26, 3) := by decide +kernel
theorem dX7_takesDigit_29 : decode cX7_takesDigit 29 = .ok (.aload_n 0, 1) := by decide +kernel
theorem dX7_takesDigit_30 : decode cX7_takesDigit 30 = .ok (.getfield 12, 3) := by decide +kernel
theorem dX7_takesDigit_33 : decode cX7_takesDigit 33 = .ok (.getfield 89, 3) := by decide +kernel
theorem dX7_takesDigit_36 : decode cX7_takesDigit 36 = .ok (.iload_n 2, 1) := by decide +kernel
theorem dX7_takesDigit_37 : decode cX7_takesDigit 37 = .ok (.aload_n 0, 1) := by decide +kernel
theorem dX7_takesDigit_38 : decode cX7_takesDigit 38 = .ok (.getfield 12, 3) := by decide +kernel
theorem dX7_takesDigit_41 : decode cX7_takesDigit 41 = .ok (.getfield 89, 3) := by decide +kernel
theorem dX7_takesDigit_44 : decode cX7_takesDigit 44 = .ok (.iload_n 2, 1) := by decide +kernel
theorem dX7_takesDigit_45 : decode cX7_takesDigit 45 = .ok (.iaload, 1) := by decide +kernel
theorem dX7_takesDigit_46 : decode cX7_takesDigit 46 = .ok (.bipush 10, 2) := by decide +kernel
theorem dX7_takesDigit_48 : decode cX7_takesDigit 48 = .ok (.imul, 1) := by decide +kernel
theorem dX7_takesDigit_49 : decode cX7_takesDigit 49 = .ok (.iload_n 1, 1) := by decide +kernel
theorem dX7_takesDigit_50 : decode cX7_takesDigit 50 = .ok (.iadd, 1) := by decide +kernel
theorem dX7_takesDigit_51 : decode cX7_takesDigit 51 = .ok (.iastore, 1) := by decide +kernel
theorem dX7_takesDigit_52 : decode cX7_takesDigit 52 = .ok (.aload_n 0, 1) := by decide +kernel
theorem dX7_takesDigit_53 : decode cX7_takesDigit 53 = .ok (.dup, 1) := by decide +kernel
theorem dX7_takesDigit_54 : decode cX7_takesDigit 54 = .ok (.getfield 68, 3) := by decide +kernel
theorem dX7_takesDigit_57 : decode cX7_takesDigit 57 = .ok (.iconst 1, 1) := by decide +kernel
theorem dX7_takesDigit_58 : decode cX7_takesDigit 58 = .ok (.iadd, 1) := by decide +kernel
theorem dX7_takesDigit_59 : decode cX7_takesDigit 59 = .ok (.putfield 68, 3) := by decide +kernel
theorem dX7_takesDigit_62 : decode cX7_takesDigit 62 = .ok (.iconst 1, 1) := by decide +kernel
theorem dX7_takesDigit_63 : decode cX7_takesDigit 63 = .ok (.ireturn, 1) := by decide +kernel
theorem dX7_takesDigit_64 : decode cX7_takesDigit 64 = .ok (.aload_n 0, 1) := by decide +kernel
theorem dX7_takesDigit_65 : decode cX7_takesDigit 65 = .ok (.getfield 46, 3) := by decide +kernel
theorem dX7_takesDigit_68 : decode cX7_takesDigit 68 = .ok (.iconst 2, 1) := by decide +kernel
theorem dX7_takesDigit_69 : decode cX7_takesDigit 69 = .ok (.if_icmp .eq 13, 3) := by decide +kernel
theorem dX7_takesDigit_72 : decode cX7_takesDigit 72 = .ok (.aload_n 0, 1) := by decide +kernel
theorem dX7_takesDigit_73 : decode cX7_takesDigit 73 = .ok (.getfield 46, 3) := by decide +kernel
theorem dX7_takesDigit_76 : decode cX7_takesDigit 76 = .ok (.iconst 3, 1) := by decide +kernel
theorem dX7_takesDigit_77 : decode cX7_takesDigit 77 = .ok (.if_icmp .eq 5, 3) := by decide +kernel
theorem dX7_takesDigit_80 : decode cX7_takesDigit 80 = .ok (.iconst 0, 1) := by decide +kernel
theorem dX7_takesDigit_81 : decode cX7_takesDigit 81 = .ok (.ireturn, 1) := by decide +kernel
theorem dX7_takesDigit_82 : decode cX7_takesDigit 82 = .ok (.aload_n 0, 1) := by decide +kernel
theorem dX7_takesDigit_83 : decode cX7_takesDigit 83 = .ok (.iload_n 1, 1) := by decide +kernel
theorem dX7_takesDigit_84 : decode cX7_takesDigit 84 = .ok (.invokevirtual 92, 3) := by decide +kernel
theorem dX7_takesDigit_87 : decode cX7_takesDigit 87 = .ok (.aload_n 0, 1) := by decide +kernel
theorem dX7_takesDigit_88 : decode cX7_takesDigit 88 = .ok (.iconst 1, 1) := by decide +kernel
theorem dX7_takesDigit_89 : decode cX7_takesDigit 89 = .ok (.putfield 68, 3) := by decide +kernel
theorem dX7_takesDigit_92 : decode cX7_takesDigit 92 = .ok (.aload_n 0, 1) := by decide +kernel
theorem dX7_takesDigit_93 : decode cX7_takesDigit 93 = .ok (.iconst 4, 1) := by decide +kernel
theorem dX7_takesDigit_94 : decode cX7_takesDigit 94 = .ok (.putfield 46, 3) := by decide +kernel
theorem dX7_takesDigit_97 : decode cX7_takesDigit 97 = .ok (.iconst 1, 1) := by decide +kernel
theorem dX7_takesDigit_98 : decode cX7_takesDigit 98 = .ok (.ireturn, 1) := by decide +kernel
theorem dX7_opensUnit_0 : decode cX7_opensUnit 0 = .ok (.aload_n 0, 1) := by decide +kernel
theorem dX7_opensUnit_1 : decode cX7_opensUnit 1 = .ok (.getfield 62, 3) := by decide +kernel
theorem dX7_opensUnit_4 : decode cX7_opensUnit 4 = .ok (.bipush 6, 2) := by decide +kernel
theorem dX7_opensUnit_6 : decode cX7_opensUnit 6 = .ok (.if_icmp .lt 5, 3) := by decide +kernel
theorem dX7_opensUnit_9 : decode cX7_opensUnit 9 = .ok (.iconst 0, 1) := by decide +kernel
theorem dX7_opensUnit_10 : decode cX7_opensUnit 10 = .ok (.ireturn, 1) := by decide +kernel
theorem dX7_opensUnit_11 : decode cX7_opensUnit 11 = .ok (.aload_n 0, 1) := by decide +kernel
theorem dX7_opensUnit_12 : decode cX7_opensUnit 12 = .ok (.iconst 1, 1) := by decide +kernel
theorem dX7_opensUnit_13 : decode cX7_opensUnit 13 = .ok (.putfield 59, 3) := by decide +kernel
theorem dX7_opensUnit_16 : decode cX7_opensUnit 16 = .ok (.aload_n 0, 1) := by decide +kernel
theorem dX7_opensUnit_17 : decode cX7_opensUnit 17 = .ok (.dup, 1) := by decide +kernel
theorem dX7_opensUnit_18 : decode cX7_opensUnit 18 = .ok (.getfield 62, 3) := by decide +kernel
theorem dX7_opensUnit_21 : decode cX7_opensUnit 21 = .ok (.iconst 1, 1) := by decide +kernel
theorem dX7_opensUnit_22 : decode cX7_opensUnit 22 = .ok (.iadd, 1) := by decide +kernel
theorem dX7_opensUnit_23 : decode cX7_opensUnit 23 = .ok (.putfield 62, 3) := by decide +kernel
theorem dX7_opensUnit_26 : decode cX7_opensUnit 26 = .ok (.aload_n 0, 1) := by decide +kernel
theorem dX7_opensUnit_27 : decode cX7_opensUnit 27 = .ok (.dup, 1) := by decide +kernel
theorem dX7_opensUnit_28 : decode cX7_opensUnit 28 = .ok (.getfield 65, 3) := by decide +kernel
theorem dX7_opensUnit_31 : decode cX7_opensUnit 31 = .ok (.iload_n 1, 1) := by decide +kernel
theorem dX7_opensUnit_32 : decode cX7_opensUnit 32 = .ok (.bipush 40, 2) := by decide +kernel
theorem dX7_opensUnit_34 : decode cX7_opensUnit 34 = .ok (.if_icmp .ne 7, 3) := by decide +kernel
theorem dX7_opensUnit_37 : decode cX7_opensUnit 37 = .ok (.iconst 1, 1) := by decide +kernel
theorem dX7_opensUnit_38 : decode cX7_opensUnit 38 = .ok (.goto 4, 3) := by decide +kernel
theorem dX7_opensUnit_41 : decode cX7_opensUnit 41 = .ok (.iconst 0, 1) := by decide +kernel
theorem dX7_opensUnit_42 : decode cX7_opensUnit 42 = .ok (.iadd, 1) := by decide +kernel
theorem dX7_opensUnit_43 : decode cX7_opensUnit 43 = .ok (.putfield 65, 3) := by decide +kernel
theorem dX7_opensUnit_46 : decode cX7_opensUnit 46 = .ok (.aload_n 0, 1) := by decide +kernel
theorem dX7_opensUnit_47 : decode cX7_opensUnit 47 = .ok (.iload_n 1, 1) := by decide +kernel
theorem dX7_opensUnit_48 : decode cX7_opensUnit 48 = .ok (.invokevirtual 96, 3) := by decide +kernel
theorem dX7_opensUnit_51 : decode cX7_opensUnit 51 = .ok (.iconst 1, 1) := by decide +kernel
theorem dX7_opensUnit_52 : decode cX7_opensUnit 52 = .ok (.ireturn, 1) := by decide +kernel
theorem dX7_takesAtom_0 : decode cX7_takesAtom 0 = .ok (.iload_n 1, 1) := by decide +kernel
theorem dX7_takesAtom_1 : decode cX7_takesAtom 1 = .ok (.bipush 91, 2) := by decide +kernel
theorem dX7_takesAtom_3 : decode cX7_takesAtom 3 = .ok (.if_icmp .ne 8, 3) := by decide +kernel
theorem dX7_takesAtom_6 : decode cX7_takesAtom 6 = .ok (.aload_n 0, 1) := by decide +kernel
theorem dX7_takesAtom_7 : decode cX7_takesAtom 7 = .ok (.invokevirtual 99, 3) := by decide +kernel
theorem dX7_takesAtom_10 : decode cX7_takesAtom 10 = .ok (.ireturn, 1) := by decide +kernel
theorem dX7_takesAtom_11 : decode cX7_takesAtom 11 = .ok (.iload_n 1, 1) := by decide +kernel
theorem dX7_takesAtom_12 : decode cX7_takesAtom 12 = .ok (.invokestatic 102, 3) := by decide +kernel
theorem dX7_takesAtom_15 : decode cX7_takesAtom 15 = .ok (.istore_n 2, 1) := by decide +kernel
theorem dX7_takesAtom_16 : decode cX7_takesAtom 16 = .ok (.iload_n 2, 1) := by decide +kernel
theorem dX7_takesAtom_17 : decode cX7_takesAtom 17 = .ok (.iconst (-1), 1) := by decide +kernel
theorem dX7_takesAtom_18 : decode cX7_takesAtom 18 = .ok (.if_icmp .ne 5, 3) := by decide +kernel
theorem dX7_takesAtom_21 : decode cX7_takesAtom 21 = .ok (.iconst 0, 1) := by decide +kernel
theorem dX7_takesAtom_22 : decode cX7_takesAtom 22 = .ok (.ireturn, 1) := by decide +kernel
theorem dX7_takesAtom_23 : decode cX7_takesAtom 23 = .ok (.aload_n 0, 1) := by decide +kernel
theorem dX7_takesAtom_24 : decode cX7_takesAtom 24 = .ok (.sipush 10000, 3) := by decide +kernel
theorem dX7_takesAtom_27 : decode cX7_takesAtom 27 = .ok (.iload_n 2, 1) := by decide +kernel
theorem dX7_takesAtom_28 : decode cX7_takesAtom 28 = .ok (.iadd, 1) := by decide +kernel
theorem dX7_takesAtom_29 : decode cX7_takesAtom 29 = .ok (.invokevirtual 92, 3) := by decide +kernel
theorem dX7_takesAtom_32 : decode cX7_takesAtom 32 = .ok (.aload_n 0, 1) := by decide +kernel
theorem dX7_takesAtom_33 : decode cX7_takesAtom 33 = .ok (.iconst 4, 1) := by decide +kernel
theorem dX7_takesAtom_34 : decode cX7_takesAtom 34 = .ok (.putfield 46, 3) := by decide +kernel
theorem dX7_takesAtom_37 : decode cX7_takesAtom 37 = .ok (.iconst 1, 1) := by decide +kernel
theorem dX7_takesAtom_38 : decode cX7_takesAtom 38 = .ok (.ireturn, 1) := by decide +kernel
theorem dX7_letterOf_0 : decode cX7_letterOf 0 = .ok (.iload_n 0, 1) := by decide +kernel
theorem dX7_letterOf_1 : decode cX7_letterOf 1 = .ok (.lookupswitch 61 #[(97, 59), (104, 53), (107, 55), (108, 51), (115, 57)], 51) := by decide +kernel
theorem dX7_letterOf_52 : decode cX7_letterOf 52 = .ok (.iconst 0, 1) := by decide +kernel
theorem dX7_letterOf_53 : decode cX7_letterOf 53 = .ok (.ireturn, 1) := by decide +kernel
theorem dX7_letterOf_54 : decode cX7_letterOf 54 = .ok (.iconst 1, 1) := by decide +kernel
theorem dX7_letterOf_55 : decode cX7_letterOf 55 = .ok (.ireturn, 1) := by decide +kernel
theorem dX7_letterOf_56 : decode cX7_letterOf 56 = .ok (.iconst 2, 1) := by decide +kernel
theorem dX7_letterOf_57 : decode cX7_letterOf 57 = .ok (.ireturn, 1) := by decide +kernel
theorem dX7_letterOf_58 : decode cX7_letterOf 58 = .ok (.iconst 3, 1) := by decide +kernel
theorem dX7_letterOf_59 : decode cX7_letterOf 59 = .ok (.ireturn, 1) := by decide +kernel
theorem dX7_letterOf_60 : decode cX7_letterOf 60 = .ok (.iconst 4, 1) := by decide +kernel
theorem dX7_letterOf_61 : decode cX7_letterOf 61 = .ok (.ireturn, 1) := by decide +kernel
theorem dX7_letterOf_62 : decode cX7_letterOf 62 = .ok (.iconst (-1), 1) := by decide +kernel
theorem dX7_letterOf_63 : decode cX7_letterOf 63 = .ok (.ireturn, 1) := by decide +kernel
theorem dX7_opensBracket_0 : decode cX7_opensBracket 0 = .ok (.aload_n 0, 1) := by decide +kernel
theorem dX7_opensBracket_1 : decode cX7_opensBracket 1 = .ok (.getfield 62, 3) := by decide +kernel
theorem dX7_opensBracket_4 : decode cX7_opensBracket 4 = .ok (.bipush 6, 2) := by decide +kernel
theorem dX7_opensBracket_6 : decode cX7_opensBracket 6 = .ok (.if_icmp .lt 5, 3) := by decide +kernel
theorem dX7_opensBracket_9 : decode cX7_opensBracket 9 = .ok (.iconst 0, 1) := by decide +kernel
theorem dX7_opensBracket_10 : decode cX7_opensBracket 10 = .ok (.ireturn, 1) := by decide +kernel
theorem dX7_opensBracket_11 : decode cX7_opensBracket 11 = .ok (.aload_n 0, 1) := by decide +kernel
theorem dX7_opensBracket_12 : decode cX7_opensBracket 12 = .ok (.dup, 1) := by decide +kernel
theorem dX7_opensBracket_13 : decode cX7_opensBracket 13 = .ok (.getfield 62, 3) := by decide +kernel
theorem dX7_opensBracket_16 : decode cX7_opensBracket 16 = .ok (.iconst 1, 1) := by decide +kernel
theorem dX7_opensBracket_17 : decode cX7_opensBracket 17 = .ok (.iadd, 1) := by decide +kernel
theorem dX7_opensBracket_18 : decode cX7_opensBracket 18 = .ok (.putfield 62, 3) := by decide +kernel
theorem dX7_opensBracket_21 : decode cX7_opensBracket 21 = .ok (.aload_n 0, 1) := by decide +kernel
theorem dX7_opensBracket_22 : decode cX7_opensBracket 22 = .ok (.bipush 91, 2) := by decide +kernel
theorem dX7_opensBracket_24 : decode cX7_opensBracket 24 = .ok (.invokevirtual 96, 3) := by decide +kernel
theorem dX7_opensBracket_27 : decode cX7_opensBracket 27 = .ok (.aload_n 0, 1) := by decide +kernel
theorem dX7_opensBracket_28 : decode cX7_opensBracket 28 = .ok (.iconst 4, 1) := by decide +kernel
theorem dX7_opensBracket_29 : decode cX7_opensBracket 29 = .ok (.putfield 59, 3) := by decide +kernel
theorem dX7_opensBracket_32 : decode cX7_opensBracket 32 = .ok (.aload_n 0, 1) := by decide +kernel
theorem dX7_opensBracket_33 : decode cX7_opensBracket 33 = .ok (.iconst 3, 1) := by decide +kernel
theorem dX7_opensBracket_34 : decode cX7_opensBracket 34 = .ok (.putfield 46, 3) := by decide +kernel
theorem dX7_opensBracket_37 : decode cX7_opensBracket 37 = .ok (.iconst 1, 1) := by decide +kernel
theorem dX7_opensBracket_38 : decode cX7_opensBracket 38 = .ok (.ireturn, 1) := by decide +kernel
theorem dX7_takesSign_0 : decode cX7_takesSign 0 = .ok (.iload_n 1, 1) := by decide +kernel
theorem dX7_takesSign_1 : decode cX7_takesSign 1 = .ok (.lookupswitch 282 #[(38, 173), (41, 196), (42, 115), (43, 115), (45, 115), (47, 115), (59, 277), (60, 142), (61, 142), (62, 142), (63, 250), (93, 226), (124, 173)], 115) := by decide +kernel
theorem dX7_takesSign_116 : decode cX7_takesSign 116 = .ok (.aload_n 0, 1) := by decide +kernel
theorem dX7_takesSign_117 : decode cX7_takesSign 117 = .ok (.getfield 59, 3) := by decide +kernel
theorem dX7_takesSign_120 : decode cX7_takesSign 120 = .ok (.iconst 5, 1) := by decide +kernel
theorem dX7_takesSign_121 : decode cX7_takesSign 121 = .ok (.if_icmp .eq 20, 3) := by decide +kernel
theorem dX7_takesSign_124 : decode cX7_takesSign 124 = .ok (.aload_n 0, 1) := by decide +kernel
theorem dX7_takesSign_125 : decode cX7_takesSign 125 = .ok (.iload_n 1, 1) := by decide +kernel
theorem dX7_takesSign_126 : decode cX7_takesSign 126 = .ok (.iconst 3, 1) := by decide +kernel
theorem dX7_takesSign_127 : decode cX7_takesSign 127 = .ok (.aload_n 0, 1) := by decide +kernel
theorem dX7_takesSign_128 : decode cX7_takesSign 128 = .ok (.getfield 59, 3) := by decide +kernel
theorem dX7_takesSign_131 : decode cX7_takesSign 131 = .ok (.invokevirtual 105, 3) := by decide +kernel
theorem dX7_takesSign_134 : decode cX7_takesSign 134 = .ok (.ifCond .eq 7, 3) := by decide +kernel
theorem dX7_takesSign_137 : decode cX7_takesSign 137 = .ok (.iconst 1, 1) := by decide +kernel
theorem dX7_takesSign_138 : decode cX7_takesSign 138 = .ok (.goto 4, 3) := by decide +kernel
theorem dX7_takesSign_141 : decode cX7_takesSign 141 = .ok (.iconst 0, 1) := by decide +kernel
theorem dX7_takesSign_142 : decode cX7_takesSign 142 = .ok (.ireturn, 1) := by decide +kernel
theorem dX7_takesSign_143 : decode cX7_takesSign 143 = .ok (.aload_n 0, 1) := by decide +kernel
theorem dX7_takesSign_144 : decode cX7_takesSign 144 = .ok (.getfield 59, 3) := by decide +kernel
theorem dX7_takesSign_147 : decode cX7_takesSign 147 = .ok (.ifCond .eq 11, 3) := by decide +kernel
theorem dX7_takesSign_150 : decode cX7_takesSign 150 = .ok (.aload_n 0, 1) := by decide +kernel
theorem dX7_takesSign_151 : decode cX7_takesSign 151 = .ok (.getfield 59, 3) := by decide +kernel
theorem dX7_takesSign_154 : decode cX7_takesSign 154 = .ok (.iconst 1, 1) := by decide +kernel
theorem dX7_takesSign_155 : decode cX7_takesSign 155 = .ok (.if_icmp .ne 17, 3) := by decide +kernel
theorem dX7_takesSign_158 : decode cX7_takesSign 158 = .ok (.aload_n 0, 1) := by decide +kernel
theorem dX7_takesSign_159 : decode cX7_takesSign 159 = .ok (.iload_n 1, 1) := by decide +kernel
theorem dX7_takesSign_160 : decode cX7_takesSign 160 = .ok (.iconst 3, 1) := by decide +kernel
theorem dX7_takesSign_161 : decode cX7_takesSign 161 = .ok (.iconst 2, 1) := by decide +kernel
theorem dX7_takesSign_162 : decode cX7_takesSign 162 = .ok (.invokevirtual 105, 3) := by decide +kernel
theorem dX7_takesSign_165 : decode cX7_takesSign 165 = .ok (.ifCond .eq 7, 3) := by decide +kernel
theorem dX7_takesSign_168 : decode cX7_takesSign 168 = .ok (.iconst 1, 1) := by decide +kernel
theorem dX7_takesSign_169 : decode cX7_takesSign 169 = .ok (.goto 4, 3) := by decide +kernel
theorem dX7_takesSign_172 : decode cX7_takesSign 172 = .ok (.iconst 0, 1) := by decide +kernel
theorem dX7_takesSign_173 : decode cX7_takesSign 173 = .ok (.ireturn, 1) := by decide +kernel
theorem dX7_takesSign_174 : decode cX7_takesSign 174 = .ok (.aload_n 0, 1) := by decide +kernel
theorem dX7_takesSign_175 : decode cX7_takesSign 175 = .ok (.invokevirtual 109, 3) := by decide +kernel
theorem dX7_takesSign_178 : decode cX7_takesSign 178 = .ok (.ifCond .eq 17, 3) := by decide +kernel
theorem dX7_takesSign_181 : decode cX7_takesSign 181 = .ok (.aload_n 0, 1) := by decide +kernel
theorem dX7_takesSign_182 : decode cX7_takesSign 182 = .ok (.iload_n 1, 1) := by decide +kernel
theorem dX7_takesSign_183 : decode cX7_takesSign 183 = .ok (.iconst 2, 1) := by decide +kernel
theorem dX7_takesSign_184 : decode cX7_takesSign 184 = .ok (.iconst 1, 1) := by decide +kernel
theorem dX7_takesSign_185 : decode cX7_takesSign 185 = .ok (.invokevirtual 105, 3) := by decide +kernel
theorem dX7_takesSign_188 : decode cX7_takesSign 188 = .ok (.ifCond .eq 7, 3) := by decide +kernel
theorem dX7_takesSign_191 : decode cX7_takesSign 191 = .ok (.iconst 1, 1) := by decide +kernel
theorem dX7_takesSign_192 : decode cX7_takesSign 192 = .ok (.goto 4, 3) := by decide +kernel
theorem dX7_takesSign_195 : decode cX7_takesSign 195 = .ok (.iconst 0, 1) := by decide +kernel
theorem dX7_takesSign_196 : decode cX7_takesSign 196 = .ok (.ireturn, 1) := by decide +kernel
theorem dX7_takesSign_197 : decode cX7_takesSign 197 = .ok (.aload_n 0, 1) := by decide +kernel
theorem dX7_takesSign_198 : decode cX7_takesSign 198 = .ok (.invokevirtual 109, 3) := by decide +kernel
theorem dX7_takesSign_201 : decode cX7_takesSign 201 = .ok (.ifCond .eq 24, 3) := by decide +kernel
theorem dX7_takesSign_204 : decode cX7_takesSign 204 = .ok (.aload_n 0, 1) := by decide +kernel
theorem dX7_takesSign_205 : decode cX7_takesSign 205 = .ok (.getfield 65, 3) := by decide +kernel
theorem dX7_takesSign_208 : decode cX7_takesSign 208 = .ok (.ifCond .le 17, 3) := by decide +kernel
theorem dX7_takesSign_211 : decode cX7_takesSign 211 = .ok (.aload_n 0, 1) := by decide +kernel
theorem dX7_takesSign_212 : decode cX7_takesSign 212 = .ok (.bipush 40, 2) := by decide +kernel
theorem dX7_takesSign_214 : decode cX7_takesSign 214 = .ok (.iconst 5, 1) := by decide +kernel
theorem dX7_takesSign_215 : decode cX7_takesSign 215 = .ok (.invokevirtual 112, 3) := by decide +kernel
theorem dX7_takesSign_218 : decode cX7_takesSign 218 = .ok (.ifCond .eq 7, 3) := by decide +kernel
theorem dX7_takesSign_221 : decode cX7_takesSign 221 = .ok (.iconst 1, 1) := by decide +kernel
theorem dX7_takesSign_222 : decode cX7_takesSign 222 = .ok (.goto 4, 3) := by decide +kernel
theorem dX7_takesSign_225 : decode cX7_takesSign 225 = .ok (.iconst 0, 1) := by decide +kernel
theorem dX7_takesSign_226 : decode cX7_takesSign 226 = .ok (.ireturn, 1) := by decide +kernel
theorem dX7_takesSign_227 : decode cX7_takesSign 227 = .ok (.aload_n 0, 1) := by decide +kernel
theorem dX7_takesSign_228 : decode cX7_takesSign 228 = .ok (.getfield 59, 3) := by decide +kernel
theorem dX7_takesSign_231 : decode cX7_takesSign 231 = .ok (.iconst 4, 1) := by decide +kernel
theorem dX7_takesSign_232 : decode cX7_takesSign 232 = .ok (.if_icmp .ne 17, 3) := by decide +kernel
theorem dX7_takesSign_235 : decode cX7_takesSign 235 = .ok (.aload_n 0, 1) := by decide +kernel
theorem dX7_takesSign_236 : decode cX7_takesSign 236 = .ok (.bipush 91, 2) := by decide +kernel
theorem dX7_takesSign_238 : decode cX7_takesSign 238 = .ok (.iconst (-1), 1) := by decide +kernel
theorem dX7_takesSign_239 : decode cX7_takesSign 239 = .ok (.invokevirtual 112, 3) := by decide +kernel
theorem dX7_takesSign_242 : decode cX7_takesSign 242 = .ok (.ifCond .eq 7, 3) := by decide +kernel
theorem dX7_takesSign_245 : decode cX7_takesSign 245 = .ok (.iconst 1, 1) := by decide +kernel
theorem dX7_takesSign_246 : decode cX7_takesSign 246 = .ok (.goto 4, 3) := by decide +kernel
theorem dX7_takesSign_249 : decode cX7_takesSign 249 = .ok (.iconst 0, 1) := by decide +kernel
theorem dX7_takesSign_250 : decode cX7_takesSign 250 = .ok (.ireturn, 1) := by decide +kernel
theorem dX7_takesSign_251 : decode cX7_takesSign 251 = .ok (.aload_n 0, 1) := by decide +kernel
theorem dX7_takesSign_252 : decode cX7_takesSign 252 = .ok (.invokevirtual 109, 3) := by decide +kernel
theorem dX7_takesSign_255 : decode cX7_takesSign 255 = .ok (.ifCond .eq 21, 3) := by decide +kernel
theorem dX7_takesSign_258 : decode cX7_takesSign 258 = .ok (.aload_n 0, 1) := by decide +kernel
theorem dX7_takesSign_259 : decode cX7_takesSign 259 = .ok (.getfield 65, 3) := by decide +kernel
theorem dX7_takesSign_262 : decode cX7_takesSign 262 = .ok (.ifCond .ne 14, 3) := by decide +kernel
theorem dX7_takesSign_265 : decode cX7_takesSign 265 = .ok (.aload_n 0, 1) := by decide +kernel
theorem dX7_takesSign_266 : decode cX7_takesSign 266 = .ok (.invokevirtual 116, 3) := by decide +kernel
theorem dX7_takesSign_269 : decode cX7_takesSign 269 = .ok (.ifCond .eq 7, 3) := by decide +kernel
theorem dX7_takesSign_272 : decode cX7_takesSign 272 = .ok (.iconst 1, 1) := by decide +kernel
theorem dX7_takesSign_273 : decode cX7_takesSign 273 = .ok (.goto 4, 3) := by decide +kernel
theorem dX7_takesSign_276 : decode cX7_takesSign 276 = .ok (.iconst 0, 1) := by decide +kernel
theorem dX7_takesSign_277 : decode cX7_takesSign 277 = .ok (.ireturn, 1) := by decide +kernel
theorem dX7_takesSign_278 : decode cX7_takesSign 278 = .ok (.aload_n 0, 1) := by decide +kernel
theorem dX7_takesSign_279 : decode cX7_takesSign 279 = .ok (.invokevirtual 49, 3) := by decide +kernel
theorem dX7_takesSign_282 : decode cX7_takesSign 282 = .ok (.ireturn, 1) := by decide +kernel
theorem dX7_takesSign_283 : decode cX7_takesSign 283 = .ok (.iconst 0, 1) := by decide +kernel
theorem dX7_takesSign_284 : decode cX7_takesSign 284 = .ok (.ireturn, 1) := by decide +kernel
theorem dX7_unitIsWhole_0 : decode cX7_unitIsWhole 0 = .ok (.aload_n 0, 1) := by decide +kernel
theorem dX7_unitIsWhole_1 : decode cX7_unitIsWhole 1 = .ok (.getfield 59, 3) := by decide +kernel
theorem dX7_unitIsWhole_4 : decode cX7_unitIsWhole 4 = .ok (.iconst 2, 1) := by decide +kernel
theorem dX7_unitIsWhole_5 : decode cX7_unitIsWhole 5 = .ok (.if_icmp .eq 11, 3) := by decide +kernel
theorem dX7_unitIsWhole_8 : decode cX7_unitIsWhole 8 = .ok (.aload_n 0, 1) := by decide +kernel
theorem dX7_unitIsWhole_9 : decode cX7_unitIsWhole 9 = .ok (.getfield 59, 3) := by decide +kernel
theorem dX7_unitIsWhole_12 : decode cX7_unitIsWhole 12 = .ok (.iconst 5, 1) := by decide +kernel
theorem dX7_unitIsWhole_13 : decode cX7_unitIsWhole 13 = .ok (.if_icmp .ne 7, 3) := by decide +kernel
theorem dX7_unitIsWhole_16 : decode cX7_unitIsWhole 16 = .ok (.iconst 1, 1) := by decide +kernel
theorem dX7_unitIsWhole_17 : decode cX7_unitIsWhole 17 = .ok (.goto 4, 3) := by decide +kernel
theorem dX7_unitIsWhole_20 : decode cX7_unitIsWhole 20 = .ok (.iconst 0, 1) := by decide +kernel
theorem dX7_unitIsWhole_21 : decode cX7_unitIsWhole 21 = .ok (.ireturn, 1) := by decide +kernel
theorem dX7_joins_0 : decode cX7_joins 0 = .ok (.aload_n 0, 1) := by decide +kernel
theorem dX7_joins_1 : decode cX7_joins 1 = .ok (.iload_n 1, 1) := by decide +kernel
theorem dX7_joins_2 : decode cX7_joins 2 = .ok (.invokestatic 119, 3) := by decide +kernel
theorem dX7_joins_5 : decode cX7_joins 5 = .ok (.invokevirtual 122, 3) := by decide +kernel
theorem dX7_joins_8 : decode cX7_joins 8 = .ok (.aload_n 0, 1) := by decide +kernel
theorem dX7_joins_9 : decode cX7_joins 9 = .ok (.iload_n 1, 1) := by decide +kernel
theorem dX7_joins_10 : decode cX7_joins 10 = .ok (.invokevirtual 96, 3) := by decide +kernel
theorem dX7_joins_13 : decode cX7_joins 13 = .ok (.aload_n 0, 1) := by decide +kernel
theorem dX7_joins_14 : decode cX7_joins 14 = .ok (.iload_n 2, 1) := by decide +kernel
theorem dX7_joins_15 : decode cX7_joins 15 = .ok (.putfield 46, 3) := by decide +kernel
theorem dX7_joins_18 : decode cX7_joins 18 = .ok (.aload_n 0, 1) := by decide +kernel
theorem dX7_joins_19 : decode cX7_joins 19 = .ok (.iload_n 3, 1) := by decide +kernel
theorem dX7_joins_20 : decode cX7_joins 20 = .ok (.putfield 59, 3) := by decide +kernel
theorem dX7_joins_23 : decode cX7_joins 23 = .ok (.iconst 1, 1) := by decide +kernel
theorem dX7_joins_24 : decode cX7_joins 24 = .ok (.ireturn, 1) := by decide +kernel
theorem dX7_closes_0 : decode cX7_closes 0 = .ok (.aload_n 0, 1) := by decide +kernel
theorem dX7_closes_1 : decode cX7_closes 1 = .ok (.iconst 1, 1) := by decide +kernel
theorem dX7_closes_2 : decode cX7_closes 2 = .ok (.invokevirtual 122, 3) := by decide +kernel
theorem dX7_closes_5 : decode cX7_closes 5 = .ok (.aload_n 0, 1) := by decide +kernel
theorem dX7_closes_6 : decode cX7_closes 6 = .ok (.getfield 56, 3) := by decide +kernel
theorem dX7_closes_9 : decode cX7_closes 9 = .ok (.ifCond .le 18, 3) := by decide +kernel
theorem dX7_closes_12 : decode cX7_closes 12 = .ok (.aload_n 0, 1) := by decide +kernel
theorem dX7_closes_13 : decode cX7_closes 13 = .ok (.getfield 22, 3) := by decide +kernel
theorem dX7_closes_16 : decode cX7_closes 16 = .ok (.aload_n 0, 1) := by decide +kernel
theorem dX7_closes_17 : decode cX7_closes 17 = .ok (.getfield 56, 3) := by decide +kernel
theorem dX7_closes_20 : decode cX7_closes 20 = .ok (.iconst 1, 1) := by decide +kernel
theorem dX7_closes_21 : decode cX7_closes 21 = .ok (.isub, 1) := by decide +kernel
theorem dX7_closes_22 : decode cX7_closes 22 = .ok (.iaload, 1) := by decide +kernel
theorem dX7_closes_23 : decode cX7_closes 23 = .ok (.iload_n 1, 1) := by decide +kernel
theorem dX7_closes_24 : decode cX7_closes 24 = .ok (.if_icmp .eq 5, 3) := by decide +kernel
theorem dX7_closes_27 : decode cX7_closes 27 = .ok (.iconst 0, 1) := by decide +kernel
theorem dX7_closes_28 : decode cX7_closes 28 = .ok (.ireturn, 1) := by decide +kernel
theorem dX7_closes_29 : decode cX7_closes 29 = .ok (.aload_n 0, 1) := by decide +kernel
theorem dX7_closes_30 : decode cX7_closes 30 = .ok (.dup, 1) := by decide +kernel
theorem dX7_closes_31 : decode cX7_closes 31 = .ok (.getfield 56, 3) := by decide +kernel
theorem dX7_closes_34 : decode cX7_closes 34 = .ok (.iconst 1, 1) := by decide +kernel
theorem dX7_closes_35 : decode cX7_closes 35 = .ok (.isub, 1) := by decide +kernel
theorem dX7_closes_36 : decode cX7_closes 36 = .ok (.putfield 56, 3) := by decide +kernel
theorem dX7_closes_39 : decode cX7_closes 39 = .ok (.aload_n 0, 1) := by decide +kernel
theorem dX7_closes_40 : decode cX7_closes 40 = .ok (.dup, 1) := by decide +kernel
theorem dX7_closes_41 : decode cX7_closes 41 = .ok (.getfield 62, 3) := by decide +kernel
theorem dX7_closes_44 : decode cX7_closes 44 = .ok (.iconst 1, 1) := by decide +kernel
theorem dX7_closes_45 : decode cX7_closes 45 = .ok (.isub, 1) := by decide +kernel
theorem dX7_closes_46 : decode cX7_closes 46 = .ok (.putfield 62, 3) := by decide +kernel
theorem dX7_closes_49 : decode cX7_closes 49 = .ok (.aload_n 0, 1) := by decide +kernel
theorem dX7_closes_50 : decode cX7_closes 50 = .ok (.dup, 1) := by decide +kernel
theorem dX7_closes_51 : decode cX7_closes 51 = .ok (.getfield 65, 3) := by decide +kernel
theorem dX7_closes_54 : decode cX7_closes 54 = .ok (.iload_n 1, 1) := by decide +kernel
theorem dX7_closes_55 : decode cX7_closes 55 = .ok (.bipush 40, 2) := by decide +kernel
theorem dX7_closes_57 : decode cX7_closes 57 = .ok (.if_icmp .ne 7, 3) := by decide +kernel
theorem dX7_closes_60 : decode cX7_closes 60 = .ok (.iconst 1, 1) := by decide +kernel
theorem dX7_closes_61 : decode cX7_closes 61 = .ok (.goto 4, 3) := by decide +kernel
theorem dX7_closes_64 : decode cX7_closes 64 = .ok (.iconst 0, 1) := by decide +kernel
theorem dX7_closes_65 : decode cX7_closes 65 = .ok (.isub, 1) := by decide +kernel
theorem dX7_closes_66 : decode cX7_closes 66 = .ok (.putfield 65, 3) := by decide +kernel
theorem dX7_closes_69 : decode cX7_closes 69 = .ok (.aload_n 0, 1) := by decide +kernel
theorem dX7_closes_70 : decode cX7_closes 70 = .ok (.iload_n 2, 1) := by decide +kernel
theorem dX7_closes_71 : decode cX7_closes 71 = .ok (.iconst (-1), 1) := by decide +kernel
theorem dX7_closes_72 : decode cX7_closes 72 = .ok (.if_icmp .ne 15, 3) := by decide +kernel
theorem dX7_closes_75 : decode cX7_closes 75 = .ok (.aload_n 0, 1) := by decide +kernel
theorem dX7_closes_76 : decode cX7_closes 76 = .ok (.getfield 26, 3) := by decide +kernel
theorem dX7_closes_79 : decode cX7_closes 79 = .ok (.aload_n 0, 1) := by decide +kernel
theorem dX7_closes_80 : decode cX7_closes 80 = .ok (.getfield 56, 3) := by decide +kernel
theorem dX7_closes_83 : decode cX7_closes 83 = .ok (.iaload, 1) := by decide +kernel
theorem dX7_closes_84 : decode cX7_closes 84 = .ok (.goto 4, 3) := by decide +kernel
theorem dX7_closes_87 : decode cX7_closes 87 = .ok (.iload_n 2, 1) := by decide +kernel
theorem dX7_closes_88 : decode cX7_closes 88 = .ok (.putfield 59, 3) := by decide +kernel
theorem dX7_closes_91 : decode cX7_closes 91 = .ok (.iconst 1, 1) := by decide +kernel
theorem dX7_closes_92 : decode cX7_closes 92 = .ok (.ireturn, 1) := by decide +kernel
theorem dX7_endsCondition_0 : decode cX7_endsCondition 0 = .ok (.aload_n 0, 1) := by decide +kernel
theorem dX7_endsCondition_1 : decode cX7_endsCondition 1 = .ok (.iconst 1, 1) := by decide +kernel
theorem dX7_endsCondition_2 : decode cX7_endsCondition 2 = .ok (.invokevirtual 122, 3) := by decide +kernel
theorem dX7_endsCondition_5 : decode cX7_endsCondition 5 = .ok (.aload_n 0, 1) := by decide +kernel
theorem dX7_endsCondition_6 : decode cX7_endsCondition 6 = .ok (.aload_n 0, 1) := by decide +kernel
theorem dX7_endsCondition_7 : decode cX7_endsCondition 7 = .ok (.getfield 12, 3) := by decide +kernel
theorem dX7_endsCondition_10 : decode cX7_endsCondition 10 = .ok (.getfield 53, 3) := by decide +kernel
theorem dX7_endsCondition_13 : decode cX7_endsCondition 13 = .ok (.putfield 71, 3) := by decide +kernel
theorem dX7_endsCondition_16 : decode cX7_endsCondition 16 = .ok (.aload_n 0, 1) := by decide +kernel
theorem dX7_endsCondition_17 : decode cX7_endsCondition 17 = .ok (.sipush 20000, 3) := by decide +kernel
theorem dX7_endsCondition_20 : decode cX7_endsCondition 20 = .ok (.invokevirtual 92, 3) := by decide +kernel
theorem dX7_endsCondition_23 : decode cX7_endsCondition 23 = .ok (.aload_n 0, 1) := by decide +kernel
theorem dX7_endsCondition_24 : decode cX7_endsCondition 24 = .ok (.iconst 3, 1) := by decide +kernel
theorem dX7_endsCondition_25 : decode cX7_endsCondition 25 = .ok (.putfield 46, 3) := by decide +kernel
theorem dX7_endsCondition_28 : decode cX7_endsCondition 28 = .ok (.aload_n 0, 1) := by decide +kernel
theorem dX7_endsCondition_29 : decode cX7_endsCondition 29 = .ok (.iconst 3, 1) := by decide +kernel
theorem dX7_endsCondition_30 : decode cX7_endsCondition 30 = .ok (.putfield 59, 3) := by decide +kernel
theorem dX7_endsCondition_33 : decode cX7_endsCondition 33 = .ok (.iconst 1, 1) := by decide +kernel
theorem dX7_endsCondition_34 : decode cX7_endsCondition 34 = .ok (.ireturn, 1) := by decide +kernel
theorem dX7_endsClause_0 : decode cX7_endsClause 0 = .ok (.aload_n 0, 1) := by decide +kernel
theorem dX7_endsClause_1 : decode cX7_endsClause 1 = .ok (.getfield 59, 3) := by decide +kernel
theorem dX7_endsClause_4 : decode cX7_endsClause 4 = .ok (.ifCond .eq 13, 3) := by decide +kernel
theorem dX7_endsClause_7 : decode cX7_endsClause 7 = .ok (.aload_n 0, 1) := by decide +kernel
theorem dX7_endsClause_8 : decode cX7_endsClause 8 = .ok (.getfield 59, 3) := by decide +kernel
theorem dX7_endsClause_11 : decode cX7_endsClause 11 = .ok (.iconst 3, 1) := by decide +kernel
theorem dX7_endsClause_12 : decode cX7_endsClause 12 = .ok (.if_icmp .eq 5, 3) := by decide +kernel
theorem dX7_endsClause_15 : decode cX7_endsClause 15 = .ok (.iconst 0, 1) := by decide +kernel
theorem dX7_endsClause_16 : decode cX7_endsClause 16 = .ok (.ireturn, 1) := by decide +kernel
theorem dX7_endsClause_17 : decode cX7_endsClause 17 = .ok (.aload_n 0, 1) := by decide +kernel
theorem dX7_endsClause_18 : decode cX7_endsClause 18 = .ok (.iconst 1, 1) := by decide +kernel
theorem dX7_endsClause_19 : decode cX7_endsClause 19 = .ok (.invokevirtual 122, 3) := by decide +kernel
theorem dX7_endsClause_22 : decode cX7_endsClause 22 = .ok (.aload_n 0, 1) := by decide +kernel
theorem dX7_endsClause_23 : decode cX7_endsClause 23 = .ok (.bipush (-59), 2) := by decide +kernel
theorem dX7_endsClause_25 : decode cX7_endsClause 25 = .ok (.invokevirtual 92, 3) := by decide +kernel
theorem dX7_endsClause_28 : decode cX7_endsClause 28 = .ok (.aload_n 0, 1) := by decide +kernel
theorem dX7_endsClause_29 : decode cX7_endsClause 29 = .ok (.getfield 71, 3) := by decide +kernel
theorem dX7_endsClause_32 : decode cX7_endsClause 32 = .ok (.iconst (-1), 1) := by decide +kernel
theorem dX7_endsClause_33 : decode cX7_endsClause 33 = .ok (.if_icmp .eq 26, 3) := by decide +kernel
theorem dX7_endsClause_36 : decode cX7_endsClause 36 = .ok (.aload_n 0, 1) := by decide +kernel
theorem dX7_endsClause_37 : decode cX7_endsClause 37 = .ok (.getfield 12, 3) := by decide +kernel
theorem dX7_endsClause_40 : decode cX7_endsClause 40 = .ok (.getfield 89, 3) := by decide +kernel
theorem dX7_endsClause_43 : decode cX7_endsClause 43 = .ok (.aload_n 0, 1) := by decide +kernel
theorem dX7_endsClause_44 : decode cX7_endsClause 44 = .ok (.getfield 71, 3) := by decide +kernel
theorem dX7_endsClause_47 : decode cX7_endsClause 47 = .ok (.sipush 20000, 3) := by decide +kernel
theorem dX7_endsClause_50 : decode cX7_endsClause 50 = .ok (.aload_n 0, 1) := by decide +kernel
theorem dX7_endsClause_51 : decode cX7_endsClause 51 = .ok (.getfield 12, 3) := by decide +kernel
theorem dX7_endsClause_54 : decode cX7_endsClause 54 = .ok (.getfield 53, 3) := by decide +kernel
theorem dX7_endsClause_57 : decode cX7_endsClause 57 = .ok (.iadd, 1) := by decide +kernel
theorem dX7_endsClause_58 : decode cX7_endsClause 58 = .ok (.iastore, 1) := by decide +kernel
theorem dX7_endsClause_59 : decode cX7_endsClause 59 = .ok (.aload_n 0, 1) := by decide +kernel
theorem dX7_endsClause_60 : decode cX7_endsClause 60 = .ok (.iconst (-1), 1) := by decide +kernel
theorem dX7_endsClause_61 : decode cX7_endsClause 61 = .ok (.putfield 71, 3) := by decide +kernel
theorem dX7_endsClause_64 : decode cX7_endsClause 64 = .ok (.aload_n 0, 1) := by decide +kernel
theorem dX7_endsClause_65 : decode cX7_endsClause 65 = .ok (.iconst 0, 1) := by decide +kernel
theorem dX7_endsClause_66 : decode cX7_endsClause 66 = .ok (.putfield 46, 3) := by decide +kernel
theorem dX7_endsClause_69 : decode cX7_endsClause 69 = .ok (.iconst 1, 1) := by decide +kernel
theorem dX7_endsClause_70 : decode cX7_endsClause 70 = .ok (.ireturn, 1) := by decide +kernel
theorem dX7_tightness_0 : decode cX7_tightness 0 = .ok (.iload_n 0, 1) := by decide +kernel
theorem dX7_tightness_1 : decode cX7_tightness 1 = .ok (.lookupswitch 104 #[(33, 95), (38, 93), (42, 101), (43, 99), (45, 99), (47, 101), (60, 97), (61, 97), (62, 97), (124, 91)], 91) := by decide +kernel
theorem dX7_tightness_92 : decode cX7_tightness 92 = .ok (.iconst 1, 1) := by decide +kernel
theorem dX7_tightness_93 : decode cX7_tightness 93 = .ok (.ireturn, 1) := by decide +kernel
theorem dX7_tightness_94 : decode cX7_tightness 94 = .ok (.iconst 2, 1) := by decide +kernel
theorem dX7_tightness_95 : decode cX7_tightness 95 = .ok (.ireturn, 1) := by decide +kernel
theorem dX7_tightness_96 : decode cX7_tightness 96 = .ok (.iconst 3, 1) := by decide +kernel
theorem dX7_tightness_97 : decode cX7_tightness 97 = .ok (.ireturn, 1) := by decide +kernel
theorem dX7_tightness_98 : decode cX7_tightness 98 = .ok (.iconst 4, 1) := by decide +kernel
theorem dX7_tightness_99 : decode cX7_tightness 99 = .ok (.ireturn, 1) := by decide +kernel
theorem dX7_tightness_100 : decode cX7_tightness 100 = .ok (.iconst 5, 1) := by decide +kernel
theorem dX7_tightness_101 : decode cX7_tightness 101 = .ok (.ireturn, 1) := by decide +kernel
theorem dX7_tightness_102 : decode cX7_tightness 102 = .ok (.bipush 6, 2) := by decide +kernel
theorem dX7_tightness_104 : decode cX7_tightness 104 = .ok (.ireturn, 1) := by decide +kernel
theorem dX7_tightness_105 : decode cX7_tightness 105 = .ok (.iconst 0, 1) := by decide +kernel
theorem dX7_tightness_106 : decode cX7_tightness 106 = .ok (.ireturn, 1) := by decide +kernel
theorem dX7_tellWaiting_0 : decode cX7_tellWaiting 0 = .ok (.aload_n 0, 1) := by decide +kernel
theorem dX7_tellWaiting_1 : decode cX7_tellWaiting 1 = .ok (.getfield 56, 3) := by decide +kernel
theorem dX7_tellWaiting_4 : decode cX7_tellWaiting 4 = .ok (.ifCond .le 76, 3) := by decide +kernel
theorem dX7_tellWaiting_7 : decode cX7_tellWaiting 7 = .ok (.aload_n 0, 1) := by decide +kernel
theorem dX7_tellWaiting_8 : decode cX7_tellWaiting 8 = .ok (.getfield 22, 3) := by decide +kernel
theorem dX7_tellWaiting_11 : decode cX7_tellWaiting 11 = .ok (.aload_n 0, 1) := by decide +kernel
theorem dX7_tellWaiting_12 : decode cX7_tellWaiting 12 = .ok (.getfield 56, 3) := by decide +kernel
theorem dX7_tellWaiting_15 : decode cX7_tellWaiting 15 = .ok (.iconst 1, 1) := by decide +kernel
theorem dX7_tellWaiting_16 : decode cX7_tellWaiting 16 = .ok (.isub, 1) := by decide +kernel
theorem dX7_tellWaiting_17 : decode cX7_tellWaiting 17 = .ok (.iaload, 1) := by decide +kernel
theorem dX7_tellWaiting_18 : decode cX7_tellWaiting 18 = .ok (.invokestatic 119, 3) := by decide +kernel
theorem dX7_tellWaiting_21 : decode cX7_tellWaiting 21 = .ok (.iload_n 1, 1) := by decide +kernel
theorem dX7_tellWaiting_22 : decode cX7_tellWaiting 22 = .ok (.if_icmp .lt 58, 3) := by decide +kernel
theorem dX7_tellWaiting_25 : decode cX7_tellWaiting 25 = .ok (.aload_n 0, 1) := by decide +kernel
theorem dX7_tellWaiting_26 : decode cX7_tellWaiting 26 = .ok (.dup, 1) := by decide +kernel
theorem dX7_tellWaiting_27 : decode cX7_tellWaiting 27 = .ok (.getfield 56, 3) := by decide +kernel
theorem dX7_tellWaiting_30 : decode cX7_tellWaiting 30 = .ok (.iconst 1, 1) := by decide +kernel
theorem dX7_tellWaiting_31 : decode cX7_tellWaiting 31 = .ok (.isub, 1) := by decide +kernel
theorem dX7_tellWaiting_32 : decode cX7_tellWaiting 32 = .ok (.putfield 56, 3) := by decide +kernel
theorem dX7_tellWaiting_35 : decode cX7_tellWaiting 35 = .ok (.aload_n 0, 1) := by decide +kernel
theorem dX7_tellWaiting_36 : decode cX7_tellWaiting 36 = .ok (.dup, 1) := by decide +kernel
theorem dX7_tellWaiting_37 : decode cX7_tellWaiting 37 = .ok (.getfield 62, 3) := by decide +kernel
theorem dX7_tellWaiting_40 : decode cX7_tellWaiting 40 = .ok (.aload_n 0, 1) := by decide +kernel
theorem dX7_tellWaiting_41 : decode cX7_tellWaiting 41 = .ok (.getfield 22, 3) := by decide +kernel
theorem dX7_tellWaiting_44 : decode cX7_tellWaiting 44 = .ok (.aload_n 0, 1) := by decide +kernel
theorem dX7_tellWaiting_45 : decode cX7_tellWaiting 45 = .ok (.getfield 56, 3) := by decide +kernel
theorem dX7_tellWaiting_48 : decode cX7_tellWaiting 48 = .ok (.iaload, 1) := by decide +kernel
theorem dX7_tellWaiting_49 : decode cX7_tellWaiting 49 = .ok (.bipush 33, 2) := by decide +kernel
theorem dX7_tellWaiting_51 : decode cX7_tellWaiting 51 = .ok (.if_icmp .ne 7, 3) := by decide +kernel
theorem dX7_tellWaiting_54 : decode cX7_tellWaiting 54 = .ok (.iconst 1, 1) := by decide +kernel
theorem dX7_tellWaiting_55 : decode cX7_tellWaiting 55 = .ok (.goto 4, 3) := by decide +kernel
theorem dX7_tellWaiting_58 : decode cX7_tellWaiting 58 = .ok (.iconst 0, 1) := by decide +kernel
theorem dX7_tellWaiting_59 : decode cX7_tellWaiting 59 = .ok (.isub, 1) := by decide +kernel
theorem dX7_tellWaiting_60 : decode cX7_tellWaiting 60 = .ok (.putfield 62, 3) := by decide +kernel
theorem dX7_tellWaiting_63 : decode cX7_tellWaiting 63 = .ok (.aload_n 0, 1) := by decide +kernel
theorem dX7_tellWaiting_64 : decode cX7_tellWaiting 64 = .ok (.aload_n 0, 1) := by decide +kernel
theorem dX7_tellWaiting_65 : decode cX7_tellWaiting 65 = .ok (.getfield 22, 3) := by decide +kernel
theorem dX7_tellWaiting_68 : decode cX7_tellWaiting 68 = .ok (.aload_n 0, 1) := by decide +kernel
theorem dX7_tellWaiting_69 : decode cX7_tellWaiting 69 = .ok (.getfield 56, 3) := by decide +kernel
theorem dX7_tellWaiting_72 : decode cX7_tellWaiting 72 = .ok (.iaload, 1) := by decide +kernel
theorem dX7_tellWaiting_73 : decode cX7_tellWaiting 73 = .ok (.ineg, 1) := by decide +kernel
theorem dX7_tellWaiting_74 : decode cX7_tellWaiting 74 = .ok (.invokevirtual 92, 3) := by decide +kernel
theorem dX7_tellWaiting_77 : decode cX7_tellWaiting 77 = .ok (.goto (-77), 3) := by decide +kernel
theorem dX7_tellWaiting_80 : decode cX7_tellWaiting 80 = .ok (.return_, 1) := by decide +kernel
theorem dX7_await_0 : decode cX7_await 0 = .ok (.aload_n 0, 1) := by decide +kernel
theorem dX7_await_1 : decode cX7_await 1 = .ok (.getfield 56, 3) := by decide +kernel
theorem dX7_await_4 : decode cX7_await 4 = .ok (.sipush 200, 3) := by decide +kernel
theorem dX7_await_7 : decode cX7_await 7 = .ok (.if_icmp .ge 36, 3) := by decide +kernel
theorem dX7_await_10 : decode cX7_await 10 = .ok (.aload_n 0, 1) := by decide +kernel
theorem dX7_await_11 : decode cX7_await 11 = .ok (.getfield 22, 3) := by decide +kernel
theorem dX7_await_14 : decode cX7_await 14 = .ok (.aload_n 0, 1) := by decide +kernel
theorem dX7_await_15 : decode cX7_await 15 = .ok (.getfield 56, 3) := by decide +kernel
theorem dX7_await_18 : decode cX7_await 18 = .ok (.iload_n 1, 1) := by decide +kernel
theorem dX7_await_19 : decode cX7_await 19 = .ok (.iastore, 1) := by decide +kernel
theorem dX7_await_20 : decode cX7_await 20 = .ok (.aload_n 0, 1) := by decide +kernel
theorem dX7_await_21 : decode cX7_await 21 = .ok (.getfield 26, 3) := by decide +kernel
theorem dX7_await_24 : decode cX7_await 24 = .ok (.aload_n 0, 1) := by decide +kernel
theorem dX7_await_25 : decode cX7_await 25 = .ok (.getfield 56, 3) := by decide +kernel
theorem dX7_await_28 : decode cX7_await 28 = .ok (.aload_n 0, 1) := by decide +kernel
theorem dX7_await_29 : decode cX7_await 29 = .ok (.getfield 59, 3) := by decide +kernel
theorem dX7_await_32 : decode cX7_await 32 = .ok (.iastore, 1) := by decide +kernel
theorem dX7_await_33 : decode cX7_await 33 = .ok (.aload_n 0, 1) := by decide +kernel
theorem dX7_await_34 : decode cX7_await 34 = .ok (.dup, 1) := by decide +kernel
theorem dX7_await_35 : decode cX7_await 35 = .ok (.getfield 56, 3) := by decide +kernel
theorem dX7_await_38 : decode cX7_await 38 = .ok (.iconst 1, 1) := by decide +kernel
theorem dX7_await_39 : decode cX7_await 39 = .ok (.iadd, 1) := by decide +kernel
theorem dX7_await_40 : decode cX7_await 40 = .ok (.putfield 56, 3) := by decide +kernel
theorem dX7_await_43 : decode cX7_await 43 = .ok (.return_, 1) := by decide +kernel
theorem dX7_tell_0 : decode cX7_tell 0 = .ok (.aload_n 0, 1) := by decide +kernel
theorem dX7_tell_1 : decode cX7_tell 1 = .ok (.getfield 12, 3) := by decide +kernel
theorem dX7_tell_4 : decode cX7_tell 4 = .ok (.getfield 53, 3) := by decide +kernel
theorem dX7_tell_7 : decode cX7_tell 7 = .ok (.sipush 201, 3) := by decide +kernel
theorem dX7_tell_10 : decode cX7_tell 10 = .ok (.if_icmp .ge 32, 3) := by decide +kernel
theorem dX7_tell_13 : decode cX7_tell 13 = .ok (.aload_n 0, 1) := by decide +kernel
theorem dX7_tell_14 : decode cX7_tell 14 = .ok (.getfield 12, 3) := by decide +kernel
theorem dX7_tell_17 : decode cX7_tell 17 = .ok (.getfield 89, 3) := by decide +kernel
theorem dX7_tell_20 : decode cX7_tell 20 = .ok (.aload_n 0, 1) := by decide +kernel
theorem dX7_tell_21 : decode cX7_tell 21 = .ok (.getfield 12, 3) := by decide +kernel
theorem dX7_tell_24 : decode cX7_tell 24 = .ok (.getfield 53, 3) := by decide +kernel
theorem dX7_tell_27 : decode cX7_tell 27 = .ok (.iload_n 1, 1) := by decide +kernel
theorem dX7_tell_28 : decode cX7_tell 28 = .ok (.iastore, 1) := by decide +kernel
theorem dX7_tell_29 : decode cX7_tell 29 = .ok (.aload_n 0, 1) := by decide +kernel
theorem dX7_tell_30 : decode cX7_tell 30 = .ok (.getfield 12, 3) := by decide +kernel
theorem dX7_tell_33 : decode cX7_tell 33 = .ok (.dup, 1) := by decide +kernel
theorem dX7_tell_34 : decode cX7_tell 34 = .ok (.getfield 53, 3) := by decide +kernel
theorem dX7_tell_37 : decode cX7_tell 37 = .ok (.iconst 1, 1) := by decide +kernel
theorem dX7_tell_38 : decode cX7_tell 38 = .ok (.iadd, 1) := by decide +kernel
theorem dX7_tell_39 : decode cX7_tell 39 = .ok (.putfield 53, 3) := by decide +kernel
theorem dX7_tell_42 : decode cX7_tell 42 = .ok (.return_, 1) := by decide +kernel
theorem dX8_init_0 : decode cX8_init 0 = .ok (.aload_n 0, 1) := by decide +kernel
theorem dX8_init_1 : decode cX8_init 1 = .ok (.invokespecial 3, 3) := by decide +kernel
theorem dX8_init_4 : decode cX8_init 4 = .ok (.aload_n 0, 1) := by decide +kernel
theorem dX8_init_5 : decode cX8_init 5 = .ok (.bipush 6, 2) := by decide +kernel
theorem dX8_init_7 : decode cX8_init 7 = .ok (.newarray .int, 2) := by decide +kernel
theorem dX8_init_9 : decode cX8_init 9 = .ok (.putfield 9, 3) := by decide +kernel
theorem dX8_init_12 : decode cX8_init 12 = .ok (.aload_n 0, 1) := by decide +kernel
theorem dX8_init_13 : decode cX8_init 13 = .ok (.bipush 6, 2) := by decide +kernel
theorem dX8_init_15 : decode cX8_init 15 = .ok (.newarray .int, 2) := by decide +kernel
theorem dX8_init_17 : decode cX8_init 17 = .ok (.putfield 15, 3) := by decide +kernel
theorem dX8_init_20 : decode cX8_init 20 = .ok (.aload_n 0, 1) := by decide +kernel
theorem dX8_init_21 : decode cX8_init 21 = .ok (.bipush 6, 2) := by decide +kernel
theorem dX8_init_23 : decode cX8_init 23 = .ok (.newarray .int, 2) := by decide +kernel
theorem dX8_init_25 : decode cX8_init 25 = .ok (.putfield 18, 3) := by decide +kernel
theorem dX8_init_28 : decode cX8_init 28 = .ok (.return_, 1) := by decide +kernel
theorem dX8_make_0 : decode cX8_make 0 = .ok (.iload_n 1, 1) := by decide +kernel
theorem dX8_make_1 : decode cX8_make 1 = .ok (.iconst 5, 1) := by decide +kernel
theorem dX8_make_2 : decode cX8_make 2 = .ok (.if_icmp .lt 20, 3) := by decide +kernel
theorem dX8_make_5 : decode cX8_make 5 = .ok (.iload_n 1, 1) := by decide +kernel
theorem dX8_make_6 : decode cX8_make 6 = .ok (.sipush 200, 3) := by decide +kernel
theorem dX8_make_9 : decode cX8_make 9 = .ok (.if_icmp .gt 13, 3) := by decide +kernel
theorem dX8_make_12 : decode cX8_make 12 = .ok (.iload_n 2, 1) := by decide +kernel
theorem dX8_make_13 : decode cX8_make 13 = .ok (.ifCond .lt 9, 3) := by decide +kernel
theorem dX8_make_16 : decode cX8_make 16 = .ok (.iload_n 2, 1) := by decide +kernel
theorem dX8_make_17 : decode cX8_make 17 = .ok (.bipush 9, 2) := by decide +kernel
theorem dX8_make_19 : decode cX8_make 19 = .ok (.if_icmp .le 5, 3) := by decide +kernel
theorem dX8_make_22 : decode cX8_make 22 = .ok (.iconst (-1), 1) := by decide +kernel
theorem dX8_make_23 : decode cX8_make 23 = .ok (.ireturn, 1) := by decide +kernel
theorem dX8_make_24 : decode cX8_make 24 = .ok (.iload_n 3, 1) := by decide +kernel
theorem dX8_make_25 : decode cX8_make 25 = .ok (.ifCond .lt 18, 3) := by decide +kernel
theorem dX8_make_28 : decode cX8_make 28 = .ok (.iload_n 3, 1) := by decide +kernel
theorem dX8_make_29 : decode cX8_make 29 = .ok (.bipush 99, 2) := by decide +kernel
theorem dX8_make_31 : decode cX8_make 31 = .ok (.if_icmp .gt 12, 3) := by decide +kernel
theorem dX8_make_34 : decode cX8_make 34 = .ok (.aload_n 0, 1) := by decide +kernel
theorem dX8_make_35 : decode cX8_make 35 = .ok (.getfield 21, 3) := by decide +kernel
theorem dX8_make_38 : decode cX8_make 38 = .ok (.bipush 6, 2) := by decide +kernel
theorem dX8_make_40 : decode cX8_make 40 = .ok (.if_icmp .lt 5, 3) := by decide +kernel
theorem dX8_make_43 : decode cX8_make 43 = .ok (.iconst (-1), 1) := by decide +kernel
theorem dX8_make_44 : decode cX8_make 44 = .ok (.ireturn, 1) := by decide +kernel
theorem dX8_make_45 : decode cX8_make 45 = .ok (.aload_n 0, 1) := by decide +kernel
theorem dX8_make_46 : decode cX8_make 46 = .ok (.getfield 9, 3) := by decide +kernel
theorem dX8_make_49 : decode cX8_make 49 = .ok (.aload_n 0, 1) := by decide +kernel
theorem dX8_make_50 : decode cX8_make 50 = .ok (.getfield 21, 3) := by decide +kernel
theorem dX8_make_53 : decode cX8_make 53 = .ok (.iload_n 1, 1) := by decide +kernel
theorem dX8_make_54 : decode cX8_make 54 = .ok (.iastore, 1) := by decide +kernel
theorem dX8_make_55 : decode cX8_make 55 = .ok (.aload_n 0, 1) := by decide +kernel
theorem dX8_make_56 : decode cX8_make 56 = .ok (.getfield 15, 3) := by decide +kernel
theorem dX8_make_59 : decode cX8_make 59 = .ok (.aload_n 0, 1) := by decide +kernel
theorem dX8_make_60 : decode cX8_make 60 = .ok (.getfield 21, 3) := by decide +kernel
theorem dX8_make_63 : decode cX8_make 63 = .ok (.iload_n 2, 1) := by decide +kernel
theorem dX8_make_64 : decode cX8_make 64 = .ok (.iastore, 1) := by decide +kernel
theorem dX8_make_65 : decode cX8_make 65 = .ok (.aload_n 0, 1) := by decide +kernel
theorem dX8_make_66 : decode cX8_make 66 = .ok (.getfield 18, 3) := by decide +kernel
theorem dX8_make_69 : decode cX8_make 69 = .ok (.aload_n 0, 1) := by decide +kernel
theorem dX8_make_70 : decode cX8_make 70 = .ok (.getfield 21, 3) := by decide +kernel
theorem dX8_make_73 : decode cX8_make 73 = .ok (.iload_n 3, 1) := by decide +kernel
theorem dX8_make_74 : decode cX8_make 74 = .ok (.iastore, 1) := by decide +kernel
theorem dX8_make_75 : decode cX8_make 75 = .ok (.aload_n 0, 1) := by decide +kernel
theorem dX8_make_76 : decode cX8_make 76 = .ok (.dup, 1) := by decide +kernel
theorem dX8_make_77 : decode cX8_make 77 = .ok (.getfield 21, 3) := by decide +kernel
theorem dX8_make_80 : decode cX8_make 80 = .ok (.dup_x1, 1) := by decide +kernel
theorem dX8_make_81 : decode cX8_make 81 = .ok (.iconst 1, 1) := by decide +kernel
theorem dX8_make_82 : decode cX8_make 82 = .ok (.iadd, 1) := by decide +kernel
theorem dX8_make_83 : decode cX8_make 83 = .ok (.putfield 21, 3) := by decide +kernel
theorem dX8_make_86 : decode cX8_make 86 = .ok (.ireturn, 1) := by decide +kernel
theorem dX8_has_0 : decode cX8_has 0 = .ok (.iload_n 1, 1) := by decide +kernel
theorem dX8_has_1 : decode cX8_has 1 = .ok (.ifCond .lt 15, 3) := by decide +kernel
theorem dX8_has_4 : decode cX8_has 4 = .ok (.iload_n 1, 1) := by decide +kernel
theorem dX8_has_5 : decode cX8_has 5 = .ok (.aload_n 0, 1) := by decide +kernel
theorem dX8_has_6 : decode cX8_has 6 = .ok (.getfield 21, 3) := by decide +kernel
theorem dX8_has_9 : decode cX8_has 9 = .ok (.if_icmp .ge 7, 3) := by decide +kernel
theorem dX8_has_12 : decode cX8_has 12 = .ok (.iconst 1, 1) := by decide +kernel
theorem dX8_has_13 : decode cX8_has 13 = .ok (.goto 4, 3) := by decide +kernel
theorem dX8_has_16 : decode cX8_has 16 = .ok (.iconst 0, 1) := by decide +kernel
theorem dX8_has_17 : decode cX8_has 17 = .ok (.ireturn, 1) := by decide +kernel
theorem dX9_init_0 : decode cX9_init 0 = .ok (.aload_n 0, 1) := by decide +kernel
theorem dX9_init_1 : decode cX9_init 1 = .ok (.invokespecial 3, 3) := by decide +kernel
theorem dX9_init_4 : decode cX9_init 4 = .ok (.aload_n 0, 1) := by decide +kernel
theorem dX9_init_5 : decode cX9_init 5 = .ok (.bipush 6, 2) := by decide +kernel
theorem dX9_init_7 : decode cX9_init 7 = .ok (.newarray .int, 2) := by decide +kernel
theorem dX9_init_9 : decode cX9_init 9 = .ok (.putfield 9, 3) := by decide +kernel
theorem dX9_init_12 : decode cX9_init 12 = .ok (.aload_n 0, 1) := by decide +kernel
theorem dX9_init_13 : decode cX9_init 13 = .ok (.iconst 1, 1) := by decide +kernel
theorem dX9_init_14 : decode cX9_init 14 = .ok (.putfield 15, 3) := by decide +kernel
theorem dX9_init_17 : decode cX9_init 17 = .ok (.aload_n 0, 1) := by decide +kernel
theorem dX9_init_18 : decode cX9_init 18 = .ok (.bipush 30, 2) := by decide +kernel
theorem dX9_init_20 : decode cX9_init 20 = .ok (.newarray .int, 2) := by decide +kernel
theorem dX9_init_22 : decode cX9_init 22 = .ok (.putfield 19, 3) := by decide +kernel
theorem dX9_init_25 : decode cX9_init 25 = .ok (.aload_n 0, 1) := by decide +kernel
theorem dX9_init_26 : decode cX9_init 26 = .ok (.bipush 30, 2) := by decide +kernel
theorem dX9_init_28 : decode cX9_init 28 = .ok (.newarray .int, 2) := by decide +kernel
theorem dX9_init_30 : decode cX9_init 30 = .ok (.putfield 22, 3) := by decide +kernel
theorem dX9_init_33 : decode cX9_init 33 = .ok (.aload_n 0, 1) := by decide +kernel
theorem dX9_init_34 : decode cX9_init 34 = .ok (.bipush 30, 2) := by decide +kernel
theorem dX9_init_36 : decode cX9_init 36 = .ok (.newarray .int, 2) := by decide +kernel
theorem dX9_init_38 : decode cX9_init 38 = .ok (.putfield 25, 3) := by decide +kernel
theorem dX9_init_41 : decode cX9_init 41 = .ok (.aload_n 0, 1) := by decide +kernel
theorem dX9_init_42 : decode cX9_init 42 = .ok (.bipush 30, 2) := by decide +kernel
theorem dX9_init_44 : decode cX9_init 44 = .ok (.newarray .int, 2) := by decide +kernel
theorem dX9_init_46 : decode cX9_init 46 = .ok (.putfield 28, 3) := by decide +kernel
theorem dX9_init_49 : decode cX9_init 49 = .ok (.aload_n 0, 1) := by decide +kernel
theorem dX9_init_50 : decode cX9_init 50 = .ok (.bipush 30, 2) := by decide +kernel
theorem dX9_init_52 : decode cX9_init 52 = .ok (.newarray .int, 2) := by decide +kernel
theorem dX9_init_54 : decode cX9_init 54 = .ok (.putfield 31, 3) := by decide +kernel
theorem dX9_init_57 : decode cX9_init 57 = .ok (.aload_n 0, 1) := by decide +kernel
theorem dX9_init_58 : decode cX9_init 58 = .ok (.bipush 30, 2) := by decide +kernel
theorem dX9_init_60 : decode cX9_init 60 = .ok (.newarray .int, 2) := by decide +kernel
theorem dX9_init_62 : decode cX9_init 62 = .ok (.putfield 34, 3) := by decide +kernel
theorem dX9_init_65 : decode cX9_init 65 = .ok (.aload_n 0, 1) := by decide +kernel
theorem dX9_init_66 : decode cX9_init 66 = .ok (.bipush 30, 2) := by decide +kernel
theorem dX9_init_68 : decode cX9_init 68 = .ok (.newarray .int, 2) := by decide +kernel
theorem dX9_init_70 : decode cX9_init 70 = .ok (.putfield 37, 3) := by decide +kernel
theorem dX9_init_73 : decode cX9_init 73 = .ok (.aload_n 0, 1) := by decide +kernel
theorem dX9_init_74 : decode cX9_init 74 = .ok (.bipush 6, 2) := by decide +kernel
theorem dX9_init_76 : decode cX9_init 76 = .ok (.newarray .int, 2) := by decide +kernel
theorem dX9_init_78 : decode cX9_init 78 = .ok (.putfield 40, 3) := by decide +kernel
theorem dX9_init_81 : decode cX9_init 81 = .ok (.aload_n 0, 1) := by decide +kernel
theorem dX9_init_82 : decode cX9_init 82 = .ok (.bipush 6, 2) := by decide +kernel
theorem dX9_init_84 : decode cX9_init 84 = .ok (.newarray .int, 2) := by decide +kernel
theorem dX9_init_86 : decode cX9_init 86 = .ok (.putfield 43, 3) := by decide +kernel
theorem dX9_init_89 : decode cX9_init 89 = .ok (.return_, 1) := by decide +kernel
theorem dX9_queue_0 : decode cX9_queue 0 = .ok (.aload_n 0, 1) := by decide +kernel
theorem dX9_queue_1 : decode cX9_queue 1 = .ok (.getfield 46, 3) := by decide +kernel
theorem dX9_queue_4 : decode cX9_queue 4 = .ok (.bipush 30, 2) := by decide +kernel
theorem dX9_queue_6 : decode cX9_queue 6 = .ok (.if_icmp .ge 25, 3) := by decide +kernel
theorem dX9_queue_9 : decode cX9_queue 9 = .ok (.aload_n 0, 1) := by decide +kernel
theorem dX9_queue_10 : decode cX9_queue 10 = .ok (.getfield 46, 3) := by decide +kernel
theorem dX9_queue_13 : decode cX9_queue 13 = .ok (.ifCond .le 20, 3) := by decide +kernel
theorem dX9_queue_16 : decode cX9_queue 16 = .ok (.iload_n 1, 1) := by decide +kernel
theorem dX9_queue_17 : decode cX9_queue 17 = .ok (.aload_n 0, 1) := by decide +kernel
theorem dX9_queue_18 : decode cX9_queue 18 = .ok (.getfield 31, 3) := by decide +kernel
theorem dX9_queue_21 : decode cX9_queue 21 = .ok (.aload_n 0, 1) := by decide +kernel
theorem dX9_queue_22 : decode cX9_queue 22 = .ok (.getfield 46, 3) := by decide +kernel
theorem dX9_queue_25 : decode cX9_queue 25 = .ok (.iconst 1, 1) := by decide +kernel
theorem dX9_queue_26 : decode cX9_queue 26 = .ok (.isub, 1) := by decide +kernel
theorem dX9_queue_27 : decode cX9_queue 27 = .ok (.iaload, 1) := by decide +kernel
theorem dX9_queue_28 : decode cX9_queue 28 = .ok (.if_icmp .ge 5, 3) := by decide +kernel
theorem dX9_queue_31 : decode cX9_queue 31 = .ok (.iconst (-1), 1) := by decide +kernel
theorem dX9_queue_32 : decode cX9_queue 32 = .ok (.ireturn, 1) := by decide +kernel
theorem dX9_queue_33 : decode cX9_queue 33 = .ok (.aload_n 0, 1) := by decide +kernel
theorem dX9_queue_34 : decode cX9_queue 34 = .ok (.getfield 31, 3) := by decide +kernel
theorem dX9_queue_37 : decode cX9_queue 37 = .ok (.aload_n 0, 1) := by decide +kernel
theorem dX9_queue_38 : decode cX9_queue 38 = .ok (.getfield 46, 3) := by decide +kernel
theorem dX9_queue_41 : decode cX9_queue 41 = .ok (.iload_n 1, 1) := by decide +kernel
theorem dX9_queue_42 : decode cX9_queue 42 = .ok (.iastore, 1) := by decide +kernel
theorem dX9_queue_43 : decode cX9_queue 43 = .ok (.aload_n 0, 1) := by decide +kernel
theorem dX9_queue_44 : decode cX9_queue 44 = .ok (.getfield 34, 3) := by decide +kernel
theorem dX9_queue_47 : decode cX9_queue 47 = .ok (.aload_n 0, 1) := by decide +kernel
theorem dX9_queue_48 : decode cX9_queue 48 = .ok (.getfield 46, 3) := by decide +kernel
theorem dX9_queue_51 : decode cX9_queue 51 = .ok (.iload_n 2, 1) := by decide +kernel
theorem dX9_queue_52 : decode cX9_queue 52 = .ok (.iastore, 1) := by decide +kernel
theorem dX9_queue_53 : decode cX9_queue 53 = .ok (.aload_n 0, 1) := by decide +kernel
theorem dX9_queue_54 : decode cX9_queue 54 = .ok (.getfield 37, 3) := by decide +kernel
theorem dX9_queue_57 : decode cX9_queue 57 = .ok (.aload_n 0, 1) := by decide +kernel
theorem dX9_queue_58 : decode cX9_queue 58 = .ok (.getfield 46, 3) := by decide +kernel
theorem dX9_queue_61 : decode cX9_queue 61 = .ok (.iload_n 3, 1) := by decide +kernel
theorem dX9_queue_62 : decode cX9_queue 62 = .ok (.iastore, 1) := by decide +kernel
theorem dX9_queue_63 : decode cX9_queue 63 = .ok (.aload_n 0, 1) := by decide +kernel
theorem dX9_queue_64 : decode cX9_queue 64 = .ok (.dup, 1) := by decide +kernel
theorem dX9_queue_65 : decode cX9_queue 65 = .ok (.getfield 46, 3) := by decide +kernel
theorem dX9_queue_68 : decode cX9_queue 68 = .ok (.dup_x1, 1) := by decide +kernel
theorem dX9_queue_69 : decode cX9_queue 69 = .ok (.iconst 1, 1) := by decide +kernel
theorem dX9_queue_70 : decode cX9_queue 70 = .ok (.iadd, 1) := by decide +kernel
theorem dX9_queue_71 : decode cX9_queue 71 = .ok (.putfield 46, 3) := by decide +kernel
theorem dX9_queue_74 : decode cX9_queue 74 = .ok (.ireturn, 1) := by decide +kernel
theorem dX9_clear_0 : decode cX9_clear 0 = .ok (.aload_n 0, 1) := by decide +kernel
theorem dX9_clear_1 : decode cX9_clear 1 = .ok (.getfield 46, 3) := by decide +kernel
theorem dX9_clear_4 : decode cX9_clear 4 = .ok (.istore_n 1, 1) := by decide +kernel
theorem dX9_clear_5 : decode cX9_clear 5 = .ok (.aload_n 0, 1) := by decide +kernel
theorem dX9_clear_6 : decode cX9_clear 6 = .ok (.iconst 0, 1) := by decide +kernel
theorem dX9_clear_7 : decode cX9_clear 7 = .ok (.putfield 46, 3) := by decide +kernel
theorem dX9_clear_10 : decode cX9_clear 10 = .ok (.aload_n 0, 1) := by decide +kernel
theorem dX9_clear_11 : decode cX9_clear 11 = .ok (.iconst 0, 1) := by decide +kernel
theorem dX9_clear_12 : decode cX9_clear 12 = .ok (.putfield 49, 3) := by decide +kernel
theorem dX9_clear_15 : decode cX9_clear 15 = .ok (.iload_n 1, 1) := by decide +kernel
theorem dX9_clear_16 : decode cX9_clear 16 = .ok (.ireturn, 1) := by decide +kernel
theorem dX9_serveAll_0 : decode cX9_serveAll 0 = .ok (.aload_n 0, 1) := by decide +kernel
theorem dX9_serveAll_1 : decode cX9_serveAll 1 = .ok (.getfield 9, 3) := by decide +kernel
theorem dX9_serveAll_4 : decode cX9_serveAll 4 = .ok (.iconst 0, 1) := by decide +kernel
theorem dX9_serveAll_5 : decode cX9_serveAll 5 = .ok (.aload_n 0, 1) := by decide +kernel
theorem dX9_serveAll_6 : decode cX9_serveAll 6 = .ok (.getfield 40, 3) := by decide +kernel
theorem dX9_serveAll_9 : decode cX9_serveAll 9 = .ok (.iconst 0, 1) := by decide +kernel
theorem dX9_serveAll_10 : decode cX9_serveAll 10 = .ok (.bipush 6, 2) := by decide +kernel
theorem dX9_serveAll_12 : decode cX9_serveAll 12 = .ok (.invokestatic 52, 3) := by decide +kernel
theorem dX9_serveAll_15 : decode cX9_serveAll 15 = .ok (.aload_n 0, 1) := by decide +kernel
theorem dX9_serveAll_16 : decode cX9_serveAll 16 = .ok (.lload_n 3, 1) := by decide +kernel
theorem dX9_serveAll_17 : decode cX9_serveAll 17 = .ok (.putfield 58, 3) := by decide +kernel
theorem dX9_serveAll_20 : decode cX9_serveAll 20 = .ok (.iconst 0, 1) := by decide +kernel
theorem dX9_serveAll_21 : decode cX9_serveAll 21 = .ok (.istore 5, 2) := by decide +kernel
theorem dX9_serveAll_23 : decode cX9_serveAll 23 = .ok (.iconst 0, 1) := by decide +kernel
theorem dX9_serveAll_24 : decode cX9_serveAll 24 = .ok (.istore 6, 2) := by decide +kernel
theorem dX9_serveAll_26 : decode cX9_serveAll 26 = .ok (.iconst 0, 1) := by decide +kernel
theorem dX9_serveAll_27 : decode cX9_serveAll 27 = .ok (.istore 7, 2) := by decide +kernel
theorem dX9_serveAll_29 : decode cX9_serveAll 29 = .ok (.iload 7, 2) := by decide +kernel
theorem dX9_serveAll_31 : decode cX9_serveAll 31 = .ok (.aload_n 0, 1) := by decide +kernel
theorem dX9_serveAll_32 : decode cX9_serveAll 32 = .ok (.getfield 46, 3) := by decide +kernel
theorem dX9_serveAll_35 : decode cX9_serveAll 35 = .ok (.if_icmp .ge 102, 3) := by decide +kernel
theorem dX9_serveAll_38 : decode cX9_serveAll 38 = .ok (.aload_n 0, 1) := by decide +kernel
theorem dX9_serveAll_39 : decode cX9_serveAll 39 = .ok (.getfield 22, 3) := by decide +kernel
theorem dX9_serveAll_42 : decode cX9_serveAll 42 = .ok (.iload 7, 2) := by decide +kernel
theorem dX9_serveAll_44 : decode cX9_serveAll 44 = .ok (.iload 5, 2) := by decide +kernel
theorem dX9_serveAll_46 : decode cX9_serveAll 46 = .ok (.aload_n 0, 1) := by decide +kernel
theorem dX9_serveAll_47 : decode cX9_serveAll 47 = .ok (.getfield 31, 3) := by decide +kernel
theorem dX9_serveAll_50 : decode cX9_serveAll 50 = .ok (.iload 7, 2) := by decide +kernel
theorem dX9_serveAll_52 : decode cX9_serveAll 52 = .ok (.iaload, 1) := by decide +kernel
theorem dX9_serveAll_53 : decode cX9_serveAll 53 = .ok (.invokestatic 62, 3) := by decide +kernel
theorem dX9_serveAll_56 : decode cX9_serveAll 56 = .ok (.iastore, 1) := by decide +kernel
theorem dX9_serveAll_57 : decode cX9_serveAll 57 = .ok (.aload_n 0, 1) := by decide +kernel
theorem dX9_serveAll_58 : decode cX9_serveAll 58 = .ok (.getfield 25, 3) := by decide +kernel
theorem dX9_serveAll_61 : decode cX9_serveAll 61 = .ok (.iload 7, 2) := by decide +kernel
theorem dX9_serveAll_63 : decode cX9_serveAll 63 = .ok (.aload_n 0, 1) := by decide +kernel
