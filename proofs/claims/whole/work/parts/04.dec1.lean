theorem dX9_serveAll_64 : decode cX9_serveAll 64 = .ok (.getfield 22, 3) := by decide +kernel
theorem dX9_serveAll_67 : decode cX9_serveAll 67 = .ok (.iload 7, 2) := by decide +kernel
theorem dX9_serveAll_69 : decode cX9_serveAll 69 = .ok (.iaload, 1) := by decide +kernel
theorem dX9_serveAll_70 : decode cX9_serveAll 70 = .ok (.iastore, 1) := by decide +kernel
theorem dX9_serveAll_71 : decode cX9_serveAll 71 = .ok (.aload_n 0, 1) := by decide +kernel
theorem dX9_serveAll_72 : decode cX9_serveAll 72 = .ok (.getfield 28, 3) := by decide +kernel
theorem dX9_serveAll_75 : decode cX9_serveAll 75 = .ok (.iload 7, 2) := by decide +kernel
theorem dX9_serveAll_77 : decode cX9_serveAll 77 = .ok (.iconst 0, 1) := by decide +kernel
theorem dX9_serveAll_78 : decode cX9_serveAll 78 = .ok (.iastore, 1) := by decide +kernel
theorem dX9_serveAll_79 : decode cX9_serveAll 79 = .ok (.aload_n 0, 1) := by decide +kernel
theorem dX9_serveAll_80 : decode cX9_serveAll 80 = .ok (.getfield 19, 3) := by decide +kernel
theorem dX9_serveAll_83 : decode cX9_serveAll 83 = .ok (.iload 7, 2) := by decide +kernel
theorem dX9_serveAll_85 : decode cX9_serveAll 85 = .ok (.aload_n 0, 1) := by decide +kernel
theorem dX9_serveAll_86 : decode cX9_serveAll 86 = .ok (.iload 7, 2) := by decide +kernel
theorem dX9_serveAll_88 : decode cX9_serveAll 88 = .ok (.aload_n 1, 1) := by decide +kernel
theorem dX9_serveAll_89 : decode cX9_serveAll 89 = .ok (.aload_n 0, 1) := by decide +kernel
theorem dX9_serveAll_90 : decode cX9_serveAll 90 = .ok (.getfield 34, 3) := by decide +kernel
theorem dX9_serveAll_93 : decode cX9_serveAll 93 = .ok (.iload 7, 2) := by decide +kernel
theorem dX9_serveAll_95 : decode cX9_serveAll 95 = .ok (.iaload, 1) := by decide +kernel
theorem dX9_serveAll_96 : decode cX9_serveAll 96 = .ok (.aaload, 1) := by decide +kernel
theorem dX9_serveAll_97 : decode cX9_serveAll 97 = .ok (.aload_n 2, 1) := by decide +kernel
theorem dX9_serveAll_98 : decode cX9_serveAll 98 = .ok (.invokevirtual 68, 3) := by decide +kernel
theorem dX9_serveAll_101 : decode cX9_serveAll 101 = .ok (.iastore, 1) := by decide +kernel
theorem dX9_serveAll_102 : decode cX9_serveAll 102 = .ok (.aload_n 0, 1) := by decide +kernel
theorem dX9_serveAll_103 : decode cX9_serveAll 103 = .ok (.getfield 25, 3) := by decide +kernel
theorem dX9_serveAll_106 : decode cX9_serveAll 106 = .ok (.iload 7, 2) := by decide +kernel
theorem dX9_serveAll_108 : decode cX9_serveAll 108 = .ok (.iaload, 1) := by decide +kernel
theorem dX9_serveAll_109 : decode cX9_serveAll 109 = .ok (.istore 5, 2) := by decide +kernel
theorem dX9_serveAll_111 : decode cX9_serveAll 111 = .ok (.iload 6, 2) := by decide +kernel
theorem dX9_serveAll_113 : decode cX9_serveAll 113 = .ok (.aload_n 0, 1) := by decide +kernel
theorem dX9_serveAll_114 : decode cX9_serveAll 114 = .ok (.getfield 19, 3) := by decide +kernel
theorem dX9_serveAll_117 : decode cX9_serveAll 117 = .ok (.iload 7, 2) := by decide +kernel
theorem dX9_serveAll_119 : decode cX9_serveAll 119 = .ok (.iaload, 1) := by decide +kernel
theorem dX9_serveAll_120 : decode cX9_serveAll 120 = .ok (.ifCond .ne 7, 3) := by decide +kernel
theorem dX9_serveAll_123 : decode cX9_serveAll 123 = .ok (.iconst 1, 1) := by decide +kernel
theorem dX9_serveAll_124 : decode cX9_serveAll 124 = .ok (.goto 4, 3) := by decide +kernel
theorem dX9_serveAll_127 : decode cX9_serveAll 127 = .ok (.iconst 0, 1) := by decide +kernel
theorem dX9_serveAll_128 : decode cX9_serveAll 128 = .ok (.iadd, 1) := by decide +kernel
theorem dX9_serveAll_129 : decode cX9_serveAll 129 = .ok (.istore 6, 2) := by decide +kernel
theorem dX9_serveAll_131 : decode cX9_serveAll 131 = .ok (.iinc 7 1, 3) := by decide +kernel
theorem dX9_serveAll_134 : decode cX9_serveAll 134 = .ok (.goto (-105), 3) := by decide +kernel
theorem dX9_serveAll_137 : decode cX9_serveAll 137 = .ok (.aload_n 0, 1) := by decide +kernel
theorem dX9_serveAll_138 : decode cX9_serveAll 138 = .ok (.aload_n 0, 1) := by decide +kernel
theorem dX9_serveAll_139 : decode cX9_serveAll 139 = .ok (.getfield 46, 3) := by decide +kernel
theorem dX9_serveAll_142 : decode cX9_serveAll 142 = .ok (.putfield 49, 3) := by decide +kernel
theorem dX9_serveAll_145 : decode cX9_serveAll 145 = .ok (.iload 6, 2) := by decide +kernel
theorem dX9_serveAll_147 : decode cX9_serveAll 147 = .ok (.ireturn, 1) := by decide +kernel
theorem dX9_outcomeFor_0 : decode cX9_outcomeFor 0 = .ok (.aload_n 0, 1) := by decide +kernel
theorem dX9_outcomeFor_1 : decode cX9_outcomeFor 1 = .ok (.getfield 22, 3) := by decide +kernel
theorem dX9_outcomeFor_4 : decode cX9_outcomeFor 4 = .ok (.iload_n 1, 1) := by decide +kernel
theorem dX9_outcomeFor_5 : decode cX9_outcomeFor 5 = .ok (.iaload, 1) := by decide +kernel
theorem dX9_outcomeFor_6 : decode cX9_outcomeFor 6 = .ok (.aload_n 0, 1) := by decide +kernel
theorem dX9_outcomeFor_7 : decode cX9_outcomeFor 7 = .ok (.getfield 31, 3) := by decide +kernel
theorem dX9_outcomeFor_10 : decode cX9_outcomeFor 10 = .ok (.iload_n 1, 1) := by decide +kernel
theorem dX9_outcomeFor_11 : decode cX9_outcomeFor 11 = .ok (.iaload, 1) := by decide +kernel
theorem dX9_outcomeFor_12 : decode cX9_outcomeFor 12 = .ok (.isub, 1) := by decide +kernel
theorem dX9_outcomeFor_13 : decode cX9_outcomeFor 13 = .ok (.aload_n 0, 1) := by decide +kernel
theorem dX9_outcomeFor_14 : decode cX9_outcomeFor 14 = .ok (.getfield 37, 3) := by decide +kernel
theorem dX9_outcomeFor_17 : decode cX9_outcomeFor 17 = .ok (.iload_n 1, 1) := by decide +kernel
theorem dX9_outcomeFor_18 : decode cX9_outcomeFor 18 = .ok (.iaload, 1) := by decide +kernel
theorem dX9_outcomeFor_19 : decode cX9_outcomeFor 19 = .ok (.if_icmp .le 5, 3) := by decide +kernel
theorem dX9_outcomeFor_22 : decode cX9_outcomeFor 22 = .ok (.iconst 1, 1) := by decide +kernel
theorem dX9_outcomeFor_23 : decode cX9_outcomeFor 23 = .ok (.ireturn, 1) := by decide +kernel
theorem dX9_outcomeFor_24 : decode cX9_outcomeFor 24 = .ok (.aload_n 0, 1) := by decide +kernel
theorem dX9_outcomeFor_25 : decode cX9_outcomeFor 25 = .ok (.aload_n 2, 1) := by decide +kernel
theorem dX9_outcomeFor_26 : decode cX9_outcomeFor 26 = .ok (.invokevirtual 72, 3) := by decide +kernel
theorem dX9_outcomeFor_29 : decode cX9_outcomeFor 29 = .ok (.ifCond .ne 5, 3) := by decide +kernel
theorem dX9_outcomeFor_32 : decode cX9_outcomeFor 32 = .ok (.iconst 2, 1) := by decide +kernel
theorem dX9_outcomeFor_33 : decode cX9_outcomeFor 33 = .ok (.ireturn, 1) := by decide +kernel
theorem dX9_outcomeFor_34 : decode cX9_outcomeFor 34 = .ok (.iconst 0, 1) := by decide +kernel
theorem dX9_outcomeFor_35 : decode cX9_outcomeFor 35 = .ok (.istore 4, 2) := by decide +kernel
theorem dX9_outcomeFor_37 : decode cX9_outcomeFor 37 = .ok (.iload 4, 2) := by decide +kernel
theorem dX9_outcomeFor_39 : decode cX9_outcomeFor 39 = .ok (.aload_n 2, 1) := by decide +kernel
theorem dX9_outcomeFor_40 : decode cX9_outcomeFor 40 = .ok (.getfield 76, 3) := by decide +kernel
theorem dX9_outcomeFor_43 : decode cX9_outcomeFor 43 = .ok (.if_icmp .ge 53, 3) := by decide +kernel
theorem dX9_outcomeFor_46 : decode cX9_outcomeFor 46 = .ok (.aload_n 2, 1) := by decide +kernel
theorem dX9_outcomeFor_47 : decode cX9_outcomeFor 47 = .ok (.getfield 81, 3) := by decide +kernel
theorem dX9_outcomeFor_50 : decode cX9_outcomeFor 50 = .ok (.iload 4, 2) := by decide +kernel
theorem dX9_outcomeFor_52 : decode cX9_outcomeFor 52 = .ok (.iaload, 1) := by decide +kernel
theorem dX9_outcomeFor_53 : decode cX9_outcomeFor 53 = .ok (.istore 5, 2) := by decide +kernel
theorem dX9_outcomeFor_55 : decode cX9_outcomeFor 55 = .ok (.aload_n 0, 1) := by decide +kernel
theorem dX9_outcomeFor_56 : decode cX9_outcomeFor 56 = .ok (.iload_n 1, 1) := by decide +kernel
theorem dX9_outcomeFor_57 : decode cX9_outcomeFor 57 = .ok (.iload 5, 2) := by decide +kernel
theorem dX9_outcomeFor_59 : decode cX9_outcomeFor 59 = .ok (.aload_n 0, 1) := by decide +kernel
theorem dX9_outcomeFor_60 : decode cX9_outcomeFor 60 = .ok (.getfield 84, 3) := by decide +kernel
theorem dX9_outcomeFor_63 : decode cX9_outcomeFor 63 = .ok (.aload_n 0, 1) := by decide +kernel
theorem dX9_outcomeFor_64 : decode cX9_outcomeFor 64 = .ok (.getfield 15, 3) := by decide +kernel
theorem dX9_outcomeFor_67 : decode cX9_outcomeFor 67 = .ok (.aload_n 2, 1) := by decide +kernel
theorem dX9_outcomeFor_68 : decode cX9_outcomeFor 68 = .ok (.iload 4, 2) := by decide +kernel
theorem dX9_outcomeFor_70 : decode cX9_outcomeFor 70 = .ok (.invokevirtual 87, 3) := by decide +kernel
theorem dX9_outcomeFor_73 : decode cX9_outcomeFor 73 = .ok (.imul, 1) := by decide +kernel
theorem dX9_outcomeFor_74 : decode cX9_outcomeFor 74 = .ok (.iadd, 1) := by decide +kernel
theorem dX9_outcomeFor_75 : decode cX9_outcomeFor 75 = .ok (.aload_n 3, 1) := by decide +kernel
theorem dX9_outcomeFor_76 : decode cX9_outcomeFor 76 = .ok (.getfield 91, 3) := by decide +kernel
theorem dX9_outcomeFor_79 : decode cX9_outcomeFor 79 = .ok (.iload 5, 2) := by decide +kernel
theorem dX9_outcomeFor_81 : decode cX9_outcomeFor 81 = .ok (.iaload, 1) := by decide +kernel
theorem dX9_outcomeFor_82 : decode cX9_outcomeFor 82 = .ok (.invokevirtual 95, 3) := by decide +kernel
theorem dX9_outcomeFor_85 : decode cX9_outcomeFor 85 = .ok (.ifCond .ne 5, 3) := by decide +kernel
theorem dX9_outcomeFor_88 : decode cX9_outcomeFor 88 = .ok (.iconst 3, 1) := by decide +kernel
theorem dX9_outcomeFor_89 : decode cX9_outcomeFor 89 = .ok (.ireturn, 1) := by decide +kernel
theorem dX9_outcomeFor_90 : decode cX9_outcomeFor 90 = .ok (.iinc 4 1, 3) := by decide +kernel
theorem dX9_outcomeFor_93 : decode cX9_outcomeFor 93 = .ok (.goto (-56), 3) := by decide +kernel
theorem dX9_outcomeFor_96 : decode cX9_outcomeFor 96 = .ok (.iconst 0, 1) := by decide +kernel
theorem dX9_outcomeFor_97 : decode cX9_outcomeFor 97 = .ok (.ireturn, 1) := by decide +kernel
theorem dX9_isThere_0 : decode cX9_isThere 0 = .ok (.aload_n 0, 1) := by decide +kernel
theorem dX9_isThere_1 : decode cX9_isThere 1 = .ok (.getfield 43, 3) := by decide +kernel
theorem dX9_isThere_4 : decode cX9_isThere 4 = .ok (.iconst 0, 1) := by decide +kernel
theorem dX9_isThere_5 : decode cX9_isThere 5 = .ok (.invokestatic 99, 3) := by decide +kernel
theorem dX9_isThere_8 : decode cX9_isThere 8 = .ok (.iconst 0, 1) := by decide +kernel
theorem dX9_isThere_9 : decode cX9_isThere 9 = .ok (.istore_n 2, 1) := by decide +kernel
theorem dX9_isThere_10 : decode cX9_isThere 10 = .ok (.iload_n 2, 1) := by decide +kernel
theorem dX9_isThere_11 : decode cX9_isThere 11 = .ok (.aload_n 1, 1) := by decide +kernel
theorem dX9_isThere_12 : decode cX9_isThere 12 = .ok (.getfield 76, 3) := by decide +kernel
theorem dX9_isThere_15 : decode cX9_isThere 15 = .ok (.if_icmp .ge 24, 3) := by decide +kernel
theorem dX9_isThere_18 : decode cX9_isThere 18 = .ok (.aload_n 0, 1) := by decide +kernel
theorem dX9_isThere_19 : decode cX9_isThere 19 = .ok (.getfield 43, 3) := by decide +kernel
theorem dX9_isThere_22 : decode cX9_isThere 22 = .ok (.aload_n 1, 1) := by decide +kernel
theorem dX9_isThere_23 : decode cX9_isThere 23 = .ok (.getfield 81, 3) := by decide +kernel
theorem dX9_isThere_26 : decode cX9_isThere 26 = .ok (.iload_n 2, 1) := by decide +kernel
theorem dX9_isThere_27 : decode cX9_isThere 27 = .ok (.iaload, 1) := by decide +kernel
theorem dX9_isThere_28 : decode cX9_isThere 28 = .ok (.dup2, 1) := by decide +kernel
theorem dX9_isThere_29 : decode cX9_isThere 29 = .ok (.iaload, 1) := by decide +kernel
theorem dX9_isThere_30 : decode cX9_isThere 30 = .ok (.iconst 1, 1) := by decide +kernel
theorem dX9_isThere_31 : decode cX9_isThere 31 = .ok (.iadd, 1) := by decide +kernel
theorem dX9_isThere_32 : decode cX9_isThere 32 = .ok (.iastore, 1) := by decide +kernel
theorem dX9_isThere_33 : decode cX9_isThere 33 = .ok (.iinc 2 1, 3) := by decide +kernel
theorem dX9_isThere_36 : decode cX9_isThere 36 = .ok (.goto (-26), 3) := by decide +kernel
theorem dX9_isThere_39 : decode cX9_isThere 39 = .ok (.iconst 0, 1) := by decide +kernel
theorem dX9_isThere_40 : decode cX9_isThere 40 = .ok (.istore_n 2, 1) := by decide +kernel
theorem dX9_isThere_41 : decode cX9_isThere 41 = .ok (.iload_n 2, 1) := by decide +kernel
theorem dX9_isThere_42 : decode cX9_isThere 42 = .ok (.bipush 6, 2) := by decide +kernel
theorem dX9_isThere_44 : decode cX9_isThere 44 = .ok (.if_icmp .ge 26, 3) := by decide +kernel
theorem dX9_isThere_47 : decode cX9_isThere 47 = .ok (.aload_n 0, 1) := by decide +kernel
theorem dX9_isThere_48 : decode cX9_isThere 48 = .ok (.getfield 40, 3) := by decide +kernel
theorem dX9_isThere_51 : decode cX9_isThere 51 = .ok (.iload_n 2, 1) := by decide +kernel
theorem dX9_isThere_52 : decode cX9_isThere 52 = .ok (.iaload, 1) := by decide +kernel
theorem dX9_isThere_53 : decode cX9_isThere 53 = .ok (.aload_n 0, 1) := by decide +kernel
theorem dX9_isThere_54 : decode cX9_isThere 54 = .ok (.getfield 43, 3) := by decide +kernel
theorem dX9_isThere_57 : decode cX9_isThere 57 = .ok (.iload_n 2, 1) := by decide +kernel
theorem dX9_isThere_58 : decode cX9_isThere 58 = .ok (.iaload, 1) := by decide +kernel
theorem dX9_isThere_59 : decode cX9_isThere 59 = .ok (.if_icmp .ge 5, 3) := by decide +kernel
theorem dX9_isThere_62 : decode cX9_isThere 62 = .ok (.iconst 0, 1) := by decide +kernel
theorem dX9_isThere_63 : decode cX9_isThere 63 = .ok (.ireturn, 1) := by decide +kernel
theorem dX9_isThere_64 : decode cX9_isThere 64 = .ok (.iinc 2 1, 3) := by decide +kernel
theorem dX9_isThere_67 : decode cX9_isThere 67 = .ok (.goto (-26), 3) := by decide +kernel
theorem dX9_isThere_70 : decode cX9_isThere 70 = .ok (.iconst 1, 1) := by decide +kernel
theorem dX9_isThere_71 : decode cX9_isThere 71 = .ok (.ireturn, 1) := by decide +kernel
theorem dX9_makesBalloon_0 : decode cX9_makesBalloon 0 = .ok (.aload_n 0, 1) := by decide +kernel
theorem dX9_makesBalloon_1 : decode cX9_makesBalloon 1 = .ok (.getfield 40, 3) := by decide +kernel
theorem dX9_makesBalloon_4 : decode cX9_makesBalloon 4 = .ok (.iload_n 2, 1) := by decide +kernel
theorem dX9_makesBalloon_5 : decode cX9_makesBalloon 5 = .ok (.iaload, 1) := by decide +kernel
theorem dX9_makesBalloon_6 : decode cX9_makesBalloon 6 = .ok (.ifCond .le 69, 3) := by decide +kernel
theorem dX9_makesBalloon_9 : decode cX9_makesBalloon 9 = .ok (.aload_n 0, 1) := by decide +kernel
theorem dX9_makesBalloon_10 : decode cX9_makesBalloon 10 = .ok (.getfield 40, 3) := by decide +kernel
theorem dX9_makesBalloon_13 : decode cX9_makesBalloon 13 = .ok (.iload_n 2, 1) := by decide +kernel
theorem dX9_makesBalloon_14 : decode cX9_makesBalloon 14 = .ok (.dup2, 1) := by decide +kernel
theorem dX9_makesBalloon_15 : decode cX9_makesBalloon 15 = .ok (.iaload, 1) := by decide +kernel
theorem dX9_makesBalloon_16 : decode cX9_makesBalloon 16 = .ok (.iconst 1, 1) := by decide +kernel
theorem dX9_makesBalloon_17 : decode cX9_makesBalloon 17 = .ok (.isub, 1) := by decide +kernel
theorem dX9_makesBalloon_18 : decode cX9_makesBalloon 18 = .ok (.iastore, 1) := by decide +kernel
theorem dX9_makesBalloon_19 : decode cX9_makesBalloon 19 = .ok (.aload_n 0, 1) := by decide +kernel
theorem dX9_makesBalloon_20 : decode cX9_makesBalloon 20 = .ok (.getfield 28, 3) := by decide +kernel
theorem dX9_makesBalloon_23 : decode cX9_makesBalloon 23 = .ok (.iload_n 1, 1) := by decide +kernel
theorem dX9_makesBalloon_24 : decode cX9_makesBalloon 24 = .ok (.dup2, 1) := by decide +kernel
theorem dX9_makesBalloon_25 : decode cX9_makesBalloon 25 = .ok (.iaload, 1) := by decide +kernel
theorem dX9_makesBalloon_26 : decode cX9_makesBalloon 26 = .ok (.iconst 1, 1) := by decide +kernel
theorem dX9_makesBalloon_27 : decode cX9_makesBalloon 27 = .ok (.iadd, 1) := by decide +kernel
theorem dX9_makesBalloon_28 : decode cX9_makesBalloon 28 = .ok (.iastore, 1) := by decide +kernel
theorem dX9_makesBalloon_29 : decode cX9_makesBalloon 29 = .ok (.aload_n 0, 1) := by decide +kernel
theorem dX9_makesBalloon_30 : decode cX9_makesBalloon 30 = .ok (.getfield 25, 3) := by decide +kernel
theorem dX9_makesBalloon_33 : decode cX9_makesBalloon 33 = .ok (.iload_n 1, 1) := by decide +kernel
theorem dX9_makesBalloon_34 : decode cX9_makesBalloon 34 = .ok (.dup2, 1) := by decide +kernel
theorem dX9_makesBalloon_35 : decode cX9_makesBalloon 35 = .ok (.iaload, 1) := by decide +kernel
theorem dX9_makesBalloon_36 : decode cX9_makesBalloon 36 = .ok (.iload_n 3, 1) := by decide +kernel
theorem dX9_makesBalloon_37 : decode cX9_makesBalloon 37 = .ok (.iadd, 1) := by decide +kernel
theorem dX9_makesBalloon_38 : decode cX9_makesBalloon 38 = .ok (.iastore, 1) := by decide +kernel
theorem dX9_makesBalloon_39 : decode cX9_makesBalloon 39 = .ok (.aload_n 0, 1) := by decide +kernel
theorem dX9_makesBalloon_40 : decode cX9_makesBalloon 40 = .ok (.aload_n 0, 1) := by decide +kernel
theorem dX9_makesBalloon_41 : decode cX9_makesBalloon 41 = .ok (.getfield 58, 3) := by decide +kernel
theorem dX9_makesBalloon_44 : decode cX9_makesBalloon 44 = .ok (.ldc2_w 105, 3) := by decide +kernel
theorem dX9_makesBalloon_47 : decode cX9_makesBalloon 47 = .ok (.lmul, 1) := by decide +kernel
theorem dX9_makesBalloon_48 : decode cX9_makesBalloon 48 = .ok (.ldc2_w 107, 3) := by decide +kernel
theorem dX9_makesBalloon_51 : decode cX9_makesBalloon 51 = .ok (.ladd, 1) := by decide +kernel
theorem dX9_makesBalloon_52 : decode cX9_makesBalloon 52 = .ok (.putfield 58, 3) := by decide +kernel
theorem dX9_makesBalloon_55 : decode cX9_makesBalloon 55 = .ok (.aload_n 0, 1) := by decide +kernel
theorem dX9_makesBalloon_56 : decode cX9_makesBalloon 56 = .ok (.getfield 58, 3) := by decide +kernel
theorem dX9_makesBalloon_59 : decode cX9_makesBalloon 59 = .ok (.bipush 33, 2) := by decide +kernel
theorem dX9_makesBalloon_61 : decode cX9_makesBalloon 61 = .ok (.lushr, 1) := by decide +kernel
theorem dX9_makesBalloon_62 : decode cX9_makesBalloon 62 = .ok (.ldc2_w 109, 3) := by decide +kernel
theorem dX9_makesBalloon_65 : decode cX9_makesBalloon 65 = .ok (.lrem, 1) := by decide +kernel
theorem dX9_makesBalloon_66 : decode cX9_makesBalloon 66 = .ok (.iload 4, 2) := by decide +kernel
theorem dX9_makesBalloon_68 : decode cX9_makesBalloon 68 = .ok (.i2l, 1) := by decide +kernel
theorem dX9_makesBalloon_69 : decode cX9_makesBalloon 69 = .ok (.lcmp, 1) := by decide +kernel
theorem dX9_makesBalloon_70 : decode cX9_makesBalloon 70 = .ok (.ifCond .lt (-70), 3) := by decide +kernel
theorem dX9_makesBalloon_73 : decode cX9_makesBalloon 73 = .ok (.iconst 1, 1) := by decide +kernel
theorem dX9_makesBalloon_74 : decode cX9_makesBalloon 74 = .ok (.ireturn, 1) := by decide +kernel
theorem dX9_makesBalloon_75 : decode cX9_makesBalloon 75 = .ok (.iconst 0, 1) := by decide +kernel
theorem dX9_makesBalloon_76 : decode cX9_makesBalloon 76 = .ok (.ireturn, 1) := by decide +kernel
theorem dX10_init_0 : decode cX10_init 0 = .ok (.aload_n 0, 1) := by decide +kernel
theorem dX10_init_1 : decode cX10_init 1 = .ok (.invokespecial 3, 3) := by decide +kernel
theorem dX10_init_4 : decode cX10_init 4 = .ok (.aload_n 0, 1) := by decide +kernel
theorem dX10_init_5 : decode cX10_init 5 = .ok (.sipush 200, 3) := by decide +kernel
theorem dX10_init_8 : decode cX10_init 8 = .ok (.newarray .char, 2) := by decide +kernel
theorem dX10_init_10 : decode cX10_init 10 = .ok (.putfield 9, 3) := by decide +kernel
theorem dX10_init_13 : decode cX10_init 13 = .ok (.return_, 1) := by decide +kernel
theorem dX10_put_0 : decode cX10_put 0 = .ok (.bipush 24, 2) := by decide +kernel
theorem dX10_put_2 : decode cX10_put 2 = .ok (.istore_n 2, 1) := by decide +kernel
theorem dX10_put_3 : decode cX10_put 3 = .ok (.iload_n 2, 1) := by decide +kernel
theorem dX10_put_4 : decode cX10_put 4 = .ok (.ifCond .lt 52, 3) := by decide +kernel
theorem dX10_put_7 : decode cX10_put 7 = .ok (.iload_n 1, 1) := by decide +kernel
theorem dX10_put_8 : decode cX10_put 8 = .ok (.iload_n 2, 1) := by decide +kernel
theorem dX10_put_9 : decode cX10_put 9 = .ok (.iushr, 1) := by decide +kernel
theorem dX10_put_10 : decode cX10_put 10 = .ok (.sipush 255, 3) := by decide +kernel
theorem dX10_put_13 : decode cX10_put 13 = .ok (.iand, 1) := by decide +kernel
theorem dX10_put_14 : decode cX10_put 14 = .ok (.istore_n 3, 1) := by decide +kernel
theorem dX10_put_15 : decode cX10_put 15 = .ok (.iload_n 3, 1) := by decide +kernel
theorem dX10_put_16 : decode cX10_put 16 = .ok (.ifCond .eq 34, 3) := by decide +kernel
theorem dX10_put_19 : decode cX10_put 19 = .ok (.aload_n 0, 1) := by decide +kernel
theorem dX10_put_20 : decode cX10_put 20 = .ok (.getfield 15, 3) := by decide +kernel
theorem dX10_put_23 : decode cX10_put 23 = .ok (.sipush 200, 3) := by decide +kernel
theorem dX10_put_26 : decode cX10_put 26 = .ok (.if_icmp .ge 24, 3) := by decide +kernel
theorem dX10_put_29 : decode cX10_put 29 = .ok (.aload_n 0, 1) := by decide +kernel
theorem dX10_put_30 : decode cX10_put 30 = .ok (.getfield 9, 3) := by decide +kernel
theorem dX10_put_33 : decode cX10_put 33 = .ok (.aload_n 0, 1) := by decide +kernel
theorem dX10_put_34 : decode cX10_put 34 = .ok (.getfield 15, 3) := by decide +kernel
theorem dX10_put_37 : decode cX10_put 37 = .ok (.iload_n 3, 1) := by decide +kernel
theorem dX10_put_38 : decode cX10_put 38 = .ok (.i2c, 1) := by decide +kernel
theorem dX10_put_39 : decode cX10_put 39 = .ok (.castore, 1) := by decide +kernel
theorem dX10_put_40 : decode cX10_put 40 = .ok (.aload_n 0, 1) := by decide +kernel
theorem dX10_put_41 : decode cX10_put 41 = .ok (.dup, 1) := by decide +kernel
theorem dX10_put_42 : decode cX10_put 42 = .ok (.getfield 15, 3) := by decide +kernel
theorem dX10_put_45 : decode cX10_put 45 = .ok (.iconst 1, 1) := by decide +kernel
theorem dX10_put_46 : decode cX10_put 46 = .ok (.iadd, 1) := by decide +kernel
theorem dX10_put_47 : decode cX10_put 47 = .ok (.putfield 15, 3) := by decide +kernel
theorem dX10_put_50 : decode cX10_put 50 = .ok (.iinc 2 (-8), 3) := by decide +kernel
theorem dX10_put_53 : decode cX10_put 53 = .ok (.goto (-50), 3) := by decide +kernel
theorem dX10_put_56 : decode cX10_put 56 = .ok (.return_, 1) := by decide +kernel
theorem dX10_at_0 : decode cX10_at 0 = .ok (.iload_n 1, 1) := by decide +kernel
theorem dX10_at_1 : decode cX10_at 1 = .ok (.ifCond .lt 11, 3) := by decide +kernel
theorem dX10_at_4 : decode cX10_at 4 = .ok (.iload_n 1, 1) := by decide +kernel
theorem dX10_at_5 : decode cX10_at 5 = .ok (.aload_n 0, 1) := by decide +kernel
theorem dX10_at_6 : decode cX10_at 6 = .ok (.getfield 15, 3) := by decide +kernel
theorem dX10_at_9 : decode cX10_at 9 = .ok (.if_icmp .lt 7, 3) := by decide +kernel
theorem dX10_at_12 : decode cX10_at 12 = .ok (.iconst 0, 1) := by decide +kernel
theorem dX10_at_13 : decode cX10_at 13 = .ok (.goto 9, 3) := by decide +kernel
theorem dX10_at_16 : decode cX10_at 16 = .ok (.aload_n 0, 1) := by decide +kernel
theorem dX10_at_17 : decode cX10_at 17 = .ok (.getfield 9, 3) := by decide +kernel
theorem dX10_at_20 : decode cX10_at 20 = .ok (.iload_n 1, 1) := by decide +kernel
theorem dX10_at_21 : decode cX10_at 21 = .ok (.caload, 1) := by decide +kernel
theorem dX10_at_22 : decode cX10_at 22 = .ok (.ireturn, 1) := by decide +kernel
theorem dX11_init_0 : decode cX11_init 0 = .ok (.aload_n 0, 1) := by decide +kernel
theorem dX11_init_1 : decode cX11_init 1 = .ok (.invokespecial 3, 3) := by decide +kernel
theorem dX11_init_4 : decode cX11_init 4 = .ok (.aload_n 0, 1) := by decide +kernel
theorem dX11_init_5 : decode cX11_init 5 = .ok (.new 9, 3) := by decide +kernel
theorem dX11_init_8 : decode cX11_init 8 = .ok (.dup, 1) := by decide +kernel
theorem dX11_init_9 : decode cX11_init 9 = .ok (.invokespecial 11, 3) := by decide +kernel
theorem dX11_init_12 : decode cX11_init 12 = .ok (.putfield 12, 3) := by decide +kernel
theorem dX11_init_15 : decode cX11_init 15 = .ok (.aload_n 0, 1) := by decide +kernel
theorem dX11_init_16 : decode cX11_init 16 = .ok (.new 16, 3) := by decide +kernel
theorem dX11_init_19 : decode cX11_init 19 = .ok (.dup, 1) := by decide +kernel
theorem dX11_init_20 : decode cX11_init 20 = .ok (.invokespecial 18, 3) := by decide +kernel
theorem dX11_init_23 : decode cX11_init 23 = .ok (.putfield 19, 3) := by decide +kernel
theorem dX11_init_26 : decode cX11_init 26 = .ok (.aload_n 0, 1) := by decide +kernel
theorem dX11_init_27 : decode cX11_init 27 = .ok (.bipush 12, 2) := by decide +kernel
theorem dX11_init_29 : decode cX11_init 29 = .ok (.anewarray 23, 3) := by decide +kernel
theorem dX11_init_32 : decode cX11_init 32 = .ok (.putfield 25, 3) := by decide +kernel
theorem dX11_init_35 : decode cX11_init 35 = .ok (.aload_n 0, 1) := by decide +kernel
theorem dX11_init_36 : decode cX11_init 36 = .ok (.bipush 6, 2) := by decide +kernel
theorem dX11_init_38 : decode cX11_init 38 = .ok (.anewarray 29, 3) := by decide +kernel
theorem dX11_init_41 : decode cX11_init 41 = .ok (.putfield 31, 3) := by decide +kernel
theorem dX11_init_44 : decode cX11_init 44 = .ok (.aload_n 0, 1) := by decide +kernel
theorem dX11_init_45 : decode cX11_init 45 = .ok (.new 35, 3) := by decide +kernel
theorem dX11_init_48 : decode cX11_init 48 = .ok (.dup, 1) := by decide +kernel
theorem dX11_init_49 : decode cX11_init 49 = .ok (.invokespecial 37, 3) := by decide +kernel
theorem dX11_init_52 : decode cX11_init 52 = .ok (.putfield 38, 3) := by decide +kernel
theorem dX11_init_55 : decode cX11_init 55 = .ok (.aload_n 0, 1) := by decide +kernel
theorem dX11_init_56 : decode cX11_init 56 = .ok (.new 42, 3) := by decide +kernel
theorem dX11_init_59 : decode cX11_init 59 = .ok (.dup, 1) := by decide +kernel
theorem dX11_init_60 : decode cX11_init 60 = .ok (.invokespecial 44, 3) := by decide +kernel
theorem dX11_init_63 : decode cX11_init 63 = .ok (.putfield 45, 3) := by decide +kernel
theorem dX11_init_66 : decode cX11_init 66 = .ok (.aload_n 0, 1) := by decide +kernel
theorem dX11_init_67 : decode cX11_init 67 = .ok (.new 49, 3) := by decide +kernel
theorem dX11_init_70 : decode cX11_init 70 = .ok (.dup, 1) := by decide +kernel
theorem dX11_init_71 : decode cX11_init 71 = .ok (.invokespecial 51, 3) := by decide +kernel
theorem dX11_init_74 : decode cX11_init 74 = .ok (.putfield 52, 3) := by decide +kernel
theorem dX11_init_77 : decode cX11_init 77 = .ok (.aload_n 0, 1) := by decide +kernel
theorem dX11_init_78 : decode cX11_init 78 = .ok (.new 56, 3) := by decide +kernel
theorem dX11_init_81 : decode cX11_init 81 = .ok (.dup, 1) := by decide +kernel
theorem dX11_init_82 : decode cX11_init 82 = .ok (.invokespecial 58, 3) := by decide +kernel
theorem dX11_init_85 : decode cX11_init 85 = .ok (.putfield 59, 3) := by decide +kernel
theorem dX11_init_88 : decode cX11_init 88 = .ok (.aload_n 0, 1) := by decide +kernel
theorem dX11_init_89 : decode cX11_init 89 = .ok (.new 63, 3) := by decide +kernel
theorem dX11_init_92 : decode cX11_init 92 = .ok (.dup, 1) := by decide +kernel
theorem dX11_init_93 : decode cX11_init 93 = .ok (.invokespecial 65, 3) := by decide +kernel
theorem dX11_init_96 : decode cX11_init 96 = .ok (.putfield 66, 3) := by decide +kernel
theorem dX11_init_99 : decode cX11_init 99 = .ok (.aload_n 0, 1) := by decide +kernel
theorem dX11_init_100 : decode cX11_init 100 = .ok (.new 70, 3) := by decide +kernel
theorem dX11_init_103 : decode cX11_init 103 = .ok (.dup, 1) := by decide +kernel
theorem dX11_init_104 : decode cX11_init 104 = .ok (.invokespecial 72, 3) := by decide +kernel
theorem dX11_init_107 : decode cX11_init 107 = .ok (.putfield 73, 3) := by decide +kernel
theorem dX11_init_110 : decode cX11_init 110 = .ok (.aload_n 0, 1) := by decide +kernel
theorem dX11_init_111 : decode cX11_init 111 = .ok (.new 77, 3) := by decide +kernel
theorem dX11_init_114 : decode cX11_init 114 = .ok (.dup, 1) := by decide +kernel
theorem dX11_init_115 : decode cX11_init 115 = .ok (.invokespecial 79, 3) := by decide +kernel
theorem dX11_init_118 : decode cX11_init 118 = .ok (.putfield 80, 3) := by decide +kernel
theorem dX11_init_121 : decode cX11_init 121 = .ok (.aload_n 0, 1) := by decide +kernel
theorem dX11_init_122 : decode cX11_init 122 = .ok (.iconst 5, 1) := by decide +kernel
theorem dX11_init_123 : decode cX11_init 123 = .ok (.newarray .int, 2) := by decide +kernel
theorem dX11_init_125 : decode cX11_init 125 = .ok (.putfield 84, 3) := by decide +kernel
theorem dX11_init_128 : decode cX11_init 128 = .ok (.aload_n 0, 1) := by decide +kernel
theorem dX11_init_129 : decode cX11_init 129 = .ok (.bipush 30, 2) := by decide +kernel
theorem dX11_init_131 : decode cX11_init 131 = .ok (.newarray .int, 2) := by decide +kernel
theorem dX11_init_133 : decode cX11_init 133 = .ok (.putfield 88, 3) := by decide +kernel
theorem dX11_init_136 : decode cX11_init 136 = .ok (.iconst 0, 1) := by decide +kernel
theorem dX11_init_137 : decode cX11_init 137 = .ok (.istore_n 1, 1) := by decide +kernel
theorem dX11_init_138 : decode cX11_init 138 = .ok (.iload_n 1, 1) := by decide +kernel
theorem dX11_init_139 : decode cX11_init 139 = .ok (.bipush 12, 2) := by decide +kernel
theorem dX11_init_141 : decode cX11_init 141 = .ok (.if_icmp .ge 22, 3) := by decide +kernel
theorem dX11_init_144 : decode cX11_init 144 = .ok (.aload_n 0, 1) := by decide +kernel
theorem dX11_init_145 : decode cX11_init 145 = .ok (.getfield 25, 3) := by decide +kernel
theorem dX11_init_148 : decode cX11_init 148 = .ok (.iload_n 1, 1) := by decide +kernel
theorem dX11_init_149 : decode cX11_init 149 = .ok (.new 23, 3) := by decide +kernel
theorem dX11_init_152 : decode cX11_init 152 = .ok (.dup, 1) := by decide +kernel
theorem dX11_init_153 : decode cX11_init 153 = .ok (.invokespecial 91, 3) := by decide +kernel
theorem dX11_init_156 : decode cX11_init 156 = .ok (.aastore, 1) := by decide +kernel
theorem dX11_init_157 : decode cX11_init 157 = .ok (.iinc 1 1, 3) := by decide +kernel
theorem dX11_init_160 : decode cX11_init 160 = .ok (.goto (-22), 3) := by decide +kernel
theorem dX11_init_163 : decode cX11_init 163 = .ok (.iconst 0, 1) := by decide +kernel
theorem dX11_init_164 : decode cX11_init 164 = .ok (.istore_n 1, 1) := by decide +kernel
theorem dX11_init_165 : decode cX11_init 165 = .ok (.iload_n 1, 1) := by decide +kernel
theorem dX11_init_166 : decode cX11_init 166 = .ok (.bipush 6, 2) := by decide +kernel
theorem dX11_init_168 : decode cX11_init 168 = .ok (.if_icmp .ge 22, 3) := by decide +kernel
theorem dX11_init_171 : decode cX11_init 171 = .ok (.aload_n 0, 1) := by decide +kernel
theorem dX11_init_172 : decode cX11_init 172 = .ok (.getfield 31, 3) := by decide +kernel
theorem dX11_init_175 : decode cX11_init 175 = .ok (.iload_n 1, 1) := by decide +kernel
theorem dX11_init_176 : decode cX11_init 176 = .ok (.new 29, 3) := by decide +kernel
theorem dX11_init_179 : decode cX11_init 179 = .ok (.dup, 1) := by decide +kernel
theorem dX11_init_180 : decode cX11_init 180 = .ok (.invokespecial 92, 3) := by decide +kernel
theorem dX11_init_183 : decode cX11_init 183 = .ok (.aastore, 1) := by decide +kernel
theorem dX11_init_184 : decode cX11_init 184 = .ok (.iinc 1 1, 3) := by decide +kernel
theorem dX11_init_187 : decode cX11_init 187 = .ok (.goto (-22), 3) := by decide +kernel
theorem dX11_init_190 : decode cX11_init 190 = .ok (.return_, 1) := by decide +kernel
theorem dX11_sort_0 : decode cX11_sort 0 = .ok (.aload_n 0, 1) := by decide +kernel
theorem dX11_sort_1 : decode cX11_sort 1 = .ok (.getfield 12, 3) := by decide +kernel
theorem dX11_sort_4 : decode cX11_sort 4 = .ok (.iload_n 1, 1) := by decide +kernel
theorem dX11_sort_5 : decode cX11_sort 5 = .ok (.iload_n 2, 1) := by decide +kernel
theorem dX11_sort_6 : decode cX11_sort 6 = .ok (.iload_n 3, 1) := by decide +kernel
theorem dX11_sort_7 : decode cX11_sort 7 = .ok (.invokevirtual 93, 3) := by decide +kernel
theorem dX11_sort_10 : decode cX11_sort 10 = .ok (.ireturn, 1) := by decide +kernel
theorem dX11_feed_0 : decode cX11_feed 0 = .ok (.iload_n 1, 1) := by decide +kernel
theorem dX11_feed_1 : decode cX11_feed 1 = .ok (.invokestatic 97, 3) := by decide +kernel
theorem dX11_feed_4 : decode cX11_feed 4 = .ok (.iload_n 2, 1) := by decide +kernel
theorem dX11_feed_5 : decode cX11_feed 5 = .ok (.invokestatic 97, 3) := by decide +kernel
theorem dX11_feed_8 : decode cX11_feed 8 = .ok (.iadd, 1) := by decide +kernel
theorem dX11_feed_9 : decode cX11_feed 9 = .ok (.iload_n 3, 1) := by decide +kernel
theorem dX11_feed_10 : decode cX11_feed 10 = .ok (.invokestatic 97, 3) := by decide +kernel
theorem dX11_feed_13 : decode cX11_feed 13 = .ok (.iadd, 1) := by decide +kernel
theorem dX11_feed_14 : decode cX11_feed 14 = .ok (.iload 4, 2) := by decide +kernel
theorem dX11_feed_16 : decode cX11_feed 16 = .ok (.invokestatic 97, 3) := by decide +kernel
theorem dX11_feed_19 : decode cX11_feed 19 = .ok (.iadd, 1) := by decide +kernel
theorem dX11_feed_20 : decode cX11_feed 20 = .ok (.iload 5, 2) := by decide +kernel
theorem dX11_feed_22 : decode cX11_feed 22 = .ok (.invokestatic 97, 3) := by decide +kernel
theorem dX11_feed_25 : decode cX11_feed 25 = .ok (.iadd, 1) := by decide +kernel
theorem dX11_feed_26 : decode cX11_feed 26 = .ok (.istore 6, 2) := by decide +kernel
theorem dX11_feed_28 : decode cX11_feed 28 = .ok (.aload_n 0, 1) := by decide +kernel
theorem dX11_feed_29 : decode cX11_feed 29 = .ok (.getfield 19, 3) := by decide +kernel
theorem dX11_feed_32 : decode cX11_feed 32 = .ok (.getfield 101, 3) := by decide +kernel
theorem dX11_feed_35 : decode cX11_feed 35 = .ok (.iload 6, 2) := by decide +kernel
theorem dX11_feed_37 : decode cX11_feed 37 = .ok (.iadd, 1) := by decide +kernel
theorem dX11_feed_38 : decode cX11_feed 38 = .ok (.sipush 200, 3) := by decide +kernel
theorem dX11_feed_41 : decode cX11_feed 41 = .ok (.if_icmp .le 5, 3) := by decide +kernel
theorem dX11_feed_44 : decode cX11_feed 44 = .ok (.iconst (-1), 1) := by decide +kernel
theorem dX11_feed_45 : decode cX11_feed 45 = .ok (.ireturn, 1) := by decide +kernel
theorem dX11_feed_46 : decode cX11_feed 46 = .ok (.aload_n 0, 1) := by decide +kernel
theorem dX11_feed_47 : decode cX11_feed 47 = .ok (.getfield 19, 3) := by decide +kernel
theorem dX11_feed_50 : decode cX11_feed 50 = .ok (.iload_n 1, 1) := by decide +kernel
theorem dX11_feed_51 : decode cX11_feed 51 = .ok (.invokevirtual 105, 3) := by decide +kernel
theorem dX11_feed_54 : decode cX11_feed 54 = .ok (.aload_n 0, 1) := by decide +kernel
theorem dX11_feed_55 : decode cX11_feed 55 = .ok (.getfield 19, 3) := by decide +kernel
theorem dX11_feed_58 : decode cX11_feed 58 = .ok (.iload_n 2, 1) := by decide +kernel
theorem dX11_feed_59 : decode cX11_feed 59 = .ok (.invokevirtual 105, 3) := by decide +kernel
theorem dX11_feed_62 : decode cX11_feed 62 = .ok (.aload_n 0, 1) := by decide +kernel
theorem dX11_feed_63 : decode cX11_feed 63 = .ok (.getfield 19, 3) := by decide +kernel
theorem dX11_feed_66 : decode cX11_feed 66 = .ok (.iload_n 3, 1) := by decide +kernel
theorem dX11_feed_67 : decode cX11_feed 67 = .ok (.invokevirtual 105, 3) := by decide +kernel
theorem dX11_feed_70 : decode cX11_feed 70 = .ok (.aload_n 0, 1) := by decide +kernel
theorem dX11_feed_71 : decode cX11_feed 71 = .ok (.getfield 19, 3) := by decide +kernel
theorem dX11_feed_74 : decode cX11_feed 74 = .ok (.iload 4, 2) := by decide +kernel
theorem dX11_feed_76 : decode cX11_feed 76 = .ok (.invokevirtual 105, 3) := by decide +kernel
theorem dX11_feed_79 : decode cX11_feed 79 = .ok (.aload_n 0, 1) := by decide +kernel
theorem dX11_feed_80 : decode cX11_feed 80 = .ok (.getfield 19, 3) := by decide +kernel
theorem dX11_feed_83 : decode cX11_feed 83 = .ok (.iload 5, 2) := by decide +kernel
theorem dX11_feed_85 : decode cX11_feed 85 = .ok (.invokevirtual 105, 3) := by decide +kernel
theorem dX11_feed_88 : decode cX11_feed 88 = .ok (.aload_n 0, 1) := by decide +kernel
theorem dX11_feed_89 : decode cX11_feed 89 = .ok (.getfield 19, 3) := by decide +kernel
theorem dX11_feed_92 : decode cX11_feed 92 = .ok (.getfield 101, 3) := by decide +kernel
theorem dX11_feed_95 : decode cX11_feed 95 = .ok (.ireturn, 1) := by decide +kernel
theorem dX11_end_0 : decode cX11_end 0 = .ok (.iload_n 1, 1) := by decide +kernel
theorem dX11_end_1 : decode cX11_end 1 = .ok (.ifCond .lt 14, 3) := by decide +kernel
theorem dX11_end_4 : decode cX11_end 4 = .ok (.iload_n 1, 1) := by decide +kernel
theorem dX11_end_5 : decode cX11_end 5 = .ok (.aload_n 0, 1) := by decide +kernel
theorem dX11_end_6 : decode cX11_end 6 = .ok (.getfield 19, 3) := by decide +kernel
theorem dX11_end_9 : decode cX11_end 9 = .ok (.getfield 101, 3) := by decide +kernel
theorem dX11_end_12 : decode cX11_end 12 = .ok (.if_icmp .le 5, 3) := by decide +kernel
theorem dX11_end_15 : decode cX11_end 15 = .ok (.iconst 0, 1) := by decide +kernel
theorem dX11_end_16 : decode cX11_end 16 = .ok (.ireturn, 1) := by decide +kernel
theorem dX11_end_17 : decode cX11_end 17 = .ok (.aload_n 0, 1) := by decide +kernel
theorem dX11_end_18 : decode cX11_end 18 = .ok (.getfield 19, 3) := by decide +kernel
theorem dX11_end_21 : decode cX11_end 21 = .ok (.iload_n 1, 1) := by decide +kernel
theorem dX11_end_22 : decode cX11_end 22 = .ok (.putfield 101, 3) := by decide +kernel
theorem dX11_end_25 : decode cX11_end 25 = .ok (.iconst 1, 1) := by decide +kernel
theorem dX11_end_26 : decode cX11_end 26 = .ok (.ireturn, 1) := by decide +kernel
theorem dX11_fault_0 : decode cX11_fault 0 = .ok (.iload_n 1, 1) := by decide +kernel
theorem dX11_fault_1 : decode cX11_fault 1 = .ok (.ifCond .ne 22, 3) := by decide +kernel
theorem dX11_fault_4 : decode cX11_fault 4 = .ok (.aload_n 0, 1) := by decide +kernel
theorem dX11_fault_5 : decode cX11_fault 5 = .ok (.getfield 38, 3) := by decide +kernel
theorem dX11_fault_8 : decode cX11_fault 8 = .ok (.aload_n 0, 1) := by decide +kernel
theorem dX11_fault_9 : decode cX11_fault 9 = .ok (.getfield 19, 3) := by decide +kernel
theorem dX11_fault_12 : decode cX11_fault 12 = .ok (.aload_n 0, 1) := by decide +kernel
theorem dX11_fault_13 : decode cX11_fault 13 = .ok (.getfield 12, 3) := by decide +kernel
theorem dX11_fault_16 : decode cX11_fault 16 = .ok (.getfield 109, 3) := by decide +kernel
theorem dX11_fault_19 : decode cX11_fault 19 = .ok (.invokevirtual 112, 3) := by decide +kernel
theorem dX11_fault_22 : decode cX11_fault 22 = .ok (.ireturn, 1) := by decide +kernel
theorem dX11_fault_23 : decode cX11_fault 23 = .ok (.iload_n 1, 1) := by decide +kernel
theorem dX11_fault_24 : decode cX11_fault 24 = .ok (.iconst 1, 1) := by decide +kernel
theorem dX11_fault_25 : decode cX11_fault 25 = .ok (.if_icmp .ne 17, 3) := by decide +kernel
theorem dX11_fault_28 : decode cX11_fault 28 = .ok (.aload_n 0, 1) := by decide +kernel
theorem dX11_fault_29 : decode cX11_fault 29 = .ok (.getfield 45, 3) := by decide +kernel
theorem dX11_fault_32 : decode cX11_fault 32 = .ok (.aload_n 0, 1) := by decide +kernel
theorem dX11_fault_33 : decode cX11_fault 33 = .ok (.getfield 19, 3) := by decide +kernel
theorem dX11_fault_36 : decode cX11_fault 36 = .ok (.invokevirtual 116, 3) := by decide +kernel
theorem dX11_fault_39 : decode cX11_fault 39 = .ok (.goto 5, 3) := by decide +kernel
theorem dX11_fault_42 : decode cX11_fault 42 = .ok (.bipush (-2), 2) := by decide +kernel
theorem dX11_fault_44 : decode cX11_fault 44 = .ok (.ireturn, 1) := by decide +kernel
theorem dX11_figure_0 : decode cX11_figure 0 = .ok (.aload_n 0, 1) := by decide +kernel
theorem dX11_figure_1 : decode cX11_figure 1 = .ok (.invokevirtual 119, 3) := by decide +kernel
theorem dX11_figure_4 : decode cX11_figure 4 = .ok (.astore_n 1, 1) := by decide +kernel
theorem dX11_figure_5 : decode cX11_figure 5 = .ok (.aload_n 1, 1) := by decide +kernel
theorem dX11_figure_6 : decode cX11_figure 6 = .ok (.ifnull 25, 3) := by decide +kernel
theorem dX11_figure_9 : decode cX11_figure 9 = .ok (.aload_n 0, 1) := by decide +kernel
theorem dX11_figure_10 : decode cX11_figure 10 = .ok (.getfield 38, 3) := by decide +kernel
theorem dX11_figure_13 : decode cX11_figure 13 = .ok (.aload_n 0, 1) := by decide +kernel
theorem dX11_figure_14 : decode cX11_figure 14 = .ok (.getfield 19, 3) := by decide +kernel
theorem dX11_figure_17 : decode cX11_figure 17 = .ok (.aload_n 0, 1) := by decide +kernel
theorem dX11_figure_18 : decode cX11_figure 18 = .ok (.getfield 12, 3) := by decide +kernel
theorem dX11_figure_21 : decode cX11_figure 21 = .ok (.getfield 109, 3) := by decide +kernel
theorem dX11_figure_24 : decode cX11_figure 24 = .ok (.invokevirtual 112, 3) := by decide +kernel
theorem dX11_figure_27 : decode cX11_figure 27 = .ok (.iconst (-1), 1) := by decide +kernel
theorem dX11_figure_28 : decode cX11_figure 28 = .ok (.if_icmp .eq 5, 3) := by decide +kernel
theorem dX11_figure_31 : decode cX11_figure 31 = .ok (.iconst (-1), 1) := by decide +kernel
theorem dX11_figure_32 : decode cX11_figure 32 = .ok (.ireturn, 1) := by decide +kernel
theorem dX11_figure_33 : decode cX11_figure 33 = .ok (.aload_n 1, 1) := by decide +kernel
theorem dX11_figure_34 : decode cX11_figure 34 = .ok (.aload_n 0, 1) := by decide +kernel
theorem dX11_figure_35 : decode cX11_figure 35 = .ok (.getfield 38, 3) := by decide +kernel
theorem dX11_figure_38 : decode cX11_figure 38 = .ok (.getfield 123, 3) := by decide +kernel
theorem dX11_figure_41 : decode cX11_figure 41 = .ok (.invokevirtual 127, 3) := by decide +kernel
theorem dX11_figure_44 : decode cX11_figure 44 = .ok (.aload_n 0, 1) := by decide +kernel
theorem dX11_figure_45 : decode cX11_figure 45 = .ok (.getfield 19, 3) := by decide +kernel
theorem dX11_figure_48 : decode cX11_figure 48 = .ok (.iconst 0, 1) := by decide +kernel
theorem dX11_figure_49 : decode cX11_figure 49 = .ok (.putfield 101, 3) := by decide +kernel
theorem dX11_figure_52 : decode cX11_figure 52 = .ok (.aload_n 0, 1) := by decide +kernel
theorem dX11_figure_53 : decode cX11_figure 53 = .ok (.dup, 1) := by decide +kernel
theorem dX11_figure_54 : decode cX11_figure 54 = .ok (.getfield 131, 3) := by decide +kernel
theorem dX11_figure_57 : decode cX11_figure 57 = .ok (.dup_x1, 1) := by decide +kernel
theorem dX11_figure_58 : decode cX11_figure 58 = .ok (.iconst 1, 1) := by decide +kernel
theorem dX11_figure_59 : decode cX11_figure 59 = .ok (.iadd, 1) := by decide +kernel
theorem dX11_figure_60 : decode cX11_figure 60 = .ok (.putfield 131, 3) := by decide +kernel
theorem dX11_figure_63 : decode cX11_figure 63 = .ok (.ireturn, 1) := by decide +kernel
theorem dX11_rule_0 : decode cX11_rule 0 = .ok (.aload_n 0, 1) := by decide +kernel
theorem dX11_rule_1 : decode cX11_rule 1 = .ok (.getfield 134, 3) := by decide +kernel
theorem dX11_rule_4 : decode cX11_rule 4 = .ok (.bipush 6, 2) := by decide +kernel
theorem dX11_rule_6 : decode cX11_rule 6 = .ok (.if_icmp .ge 18, 3) := by decide +kernel
theorem dX11_rule_9 : decode cX11_rule 9 = .ok (.aload_n 0, 1) := by decide +kernel
theorem dX11_rule_10 : decode cX11_rule 10 = .ok (.getfield 45, 3) := by decide +kernel
theorem dX11_rule_13 : decode cX11_rule 13 = .ok (.aload_n 0, 1) := by decide +kernel
theorem dX11_rule_14 : decode cX11_rule 14 = .ok (.getfield 19, 3) := by decide +kernel
theorem dX11_rule_17 : decode cX11_rule 17 = .ok (.invokevirtual 116, 3) := by decide +kernel
theorem dX11_rule_20 : decode cX11_rule 20 = .ok (.iconst (-1), 1) := by decide +kernel
theorem dX11_rule_21 : decode cX11_rule 21 = .ok (.if_icmp .eq 5, 3) := by decide +kernel
theorem dX11_rule_24 : decode cX11_rule 24 = .ok (.iconst (-1), 1) := by decide +kernel
theorem dX11_rule_25 : decode cX11_rule 25 = .ok (.ireturn, 1) := by decide +kernel
theorem dX11_rule_26 : decode cX11_rule 26 = .ok (.aload_n 0, 1) := by decide +kernel
theorem dX11_rule_27 : decode cX11_rule 27 = .ok (.getfield 31, 3) := by decide +kernel
theorem dX11_rule_30 : decode cX11_rule 30 = .ok (.aload_n 0, 1) := by decide +kernel
theorem dX11_rule_31 : decode cX11_rule 31 = .ok (.getfield 134, 3) := by decide +kernel
theorem dX11_rule_34 : decode cX11_rule 34 = .ok (.aaload, 1) := by decide +kernel
theorem dX11_rule_35 : decode cX11_rule 35 = .ok (.aload_n 0, 1) := by decide +kernel
theorem dX11_rule_36 : decode cX11_rule 36 = .ok (.getfield 45, 3) := by decide +kernel
theorem dX11_rule_39 : decode cX11_rule 39 = .ok (.getfield 137, 3) := by decide +kernel
theorem dX11_rule_42 : decode cX11_rule 42 = .ok (.invokevirtual 140, 3) := by decide +kernel
theorem dX11_rule_45 : decode cX11_rule 45 = .ok (.aload_n 0, 1) := by decide +kernel
theorem dX11_rule_46 : decode cX11_rule 46 = .ok (.getfield 19, 3) := by decide +kernel
theorem dX11_rule_49 : decode cX11_rule 49 = .ok (.iconst 0, 1) := by decide +kernel
theorem dX11_rule_50 : decode cX11_rule 50 = .ok (.putfield 101, 3) := by decide +kernel
theorem dX11_rule_53 : decode cX11_rule 53 = .ok (.aload_n 0, 1) := by decide +kernel
theorem dX11_rule_54 : decode cX11_rule 54 = .ok (.dup, 1) := by decide +kernel
theorem dX11_rule_55 : decode cX11_rule 55 = .ok (.getfield 134, 3) := by decide +kernel
theorem dX11_rule_58 : decode cX11_rule 58 = .ok (.dup_x1, 1) := by decide +kernel
theorem dX11_rule_59 : decode cX11_rule 59 = .ok (.iconst 1, 1) := by decide +kernel
theorem dX11_rule_60 : decode cX11_rule 60 = .ok (.iadd, 1) := by decide +kernel
theorem dX11_rule_61 : decode cX11_rule 61 = .ok (.putfield 134, 3) := by decide +kernel
theorem dX11_rule_64 : decode cX11_rule 64 = .ok (.ireturn, 1) := by decide +kernel
theorem dX11_many_0 : decode cX11_many 0 = .ok (.aload_n 0, 1) := by decide +kernel
theorem dX11_many_1 : decode cX11_many 1 = .ok (.iload_n 1, 1) := by decide +kernel
theorem dX11_many_2 : decode cX11_many 2 = .ok (.invokevirtual 143, 3) := by decide +kernel
theorem dX11_many_5 : decode cX11_many 5 = .ok (.astore_n 3, 1) := by decide +kernel
theorem dX11_many_6 : decode cX11_many 6 = .ok (.aload_n 3, 1) := by decide +kernel
theorem dX11_many_7 : decode cX11_many 7 = .ok (.ifnonnull 5, 3) := by decide +kernel
theorem dX11_many_10 : decode cX11_many 10 = .ok (.iconst (-1), 1) := by decide +kernel
theorem dX11_many_11 : decode cX11_many 11 = .ok (.ireturn, 1) := by decide +kernel
theorem dX11_many_12 : decode cX11_many 12 = .ok (.iload_n 2, 1) := by decide +kernel
theorem dX11_many_13 : decode cX11_many 13 = .ok (.tableswitch 78 0 5 #[39, 44, 49, 54, 59, 70], 39) := by decide +kernel
theorem dX11_many_52 : decode cX11_many 52 = .ok (.aload_n 3, 1) := by decide +kernel
theorem dX11_many_53 : decode cX11_many 53 = .ok (.getfield 147, 3) := by decide +kernel
theorem dX11_many_56 : decode cX11_many 56 = .ok (.ireturn, 1) := by decide +kernel
theorem dX11_many_57 : decode cX11_many 57 = .ok (.aload_n 3, 1) := by decide +kernel
theorem dX11_many_58 : decode cX11_many 58 = .ok (.getfield 150, 3) := by decide +kernel
theorem dX11_many_61 : decode cX11_many 61 = .ok (.ireturn, 1) := by decide +kernel
theorem dX11_many_62 : decode cX11_many 62 = .ok (.aload_n 3, 1) := by decide +kernel
theorem dX11_many_63 : decode cX11_many 63 = .ok (.getfield 153, 3) := by decide +kernel
theorem dX11_many_66 : decode cX11_many 66 = .ok (.ireturn, 1) := by decide +kernel
theorem dX11_many_67 : decode cX11_many 67 = .ok (.aload_n 3, 1) := by decide +kernel
theorem dX11_many_68 : decode cX11_many 68 = .ok (.invokevirtual 156, 3) := by decide +kernel
theorem dX11_many_71 : decode cX11_many 71 = .ok (.ireturn, 1) := by decide +kernel
theorem dX11_many_72 : decode cX11_many 72 = .ok (.aload_n 3, 1) := by decide +kernel
theorem dX11_many_73 : decode cX11_many 73 = .ok (.aload_n 3, 1) := by decide +kernel
theorem dX11_many_74 : decode cX11_many 74 = .ok (.getfield 150, 3) := by decide +kernel
theorem dX11_many_77 : decode cX11_many 77 = .ok (.iconst 1, 1) := by decide +kernel
theorem dX11_many_78 : decode cX11_many 78 = .ok (.isub, 1) := by decide +kernel
theorem dX11_many_79 : decode cX11_many 79 = .ok (.invokevirtual 160, 3) := by decide +kernel
theorem dX11_many_82 : decode cX11_many 82 = .ok (.ireturn, 1) := by decide +kernel
theorem dX11_many_83 : decode cX11_many 83 = .ok (.aload_n 3, 1) := by decide +kernel
theorem dX11_many_84 : decode cX11_many 84 = .ok (.invokevirtual 163, 3) := by decide +kernel
theorem dX11_many_87 : decode cX11_many 87 = .ok (.invokestatic 166, 3) := by decide +kernel
theorem dX11_many_90 : decode cX11_many 90 = .ok (.ireturn, 1) := by decide +kernel
theorem dX11_many_91 : decode cX11_many 91 = .ok (.iconst (-1), 1) := by decide +kernel
theorem dX11_many_92 : decode cX11_many 92 = .ok (.ireturn, 1) := by decide +kernel
theorem dX11_bubble_0 : decode cX11_bubble 0 = .ok (.aload_n 0, 1) := by decide +kernel
theorem dX11_bubble_1 : decode cX11_bubble 1 = .ok (.iload_n 1, 1) := by decide +kernel
theorem dX11_bubble_2 : decode cX11_bubble 2 = .ok (.invokevirtual 143, 3) := by decide +kernel
theorem dX11_bubble_5 : decode cX11_bubble 5 = .ok (.astore 4, 2) := by decide +kernel
theorem dX11_bubble_7 : decode cX11_bubble 7 = .ok (.aload 4, 2) := by decide +kernel
theorem dX11_bubble_9 : decode cX11_bubble 9 = .ok (.ifnull 12, 3) := by decide +kernel
theorem dX11_bubble_12 : decode cX11_bubble 12 = .ok (.aload 4, 2) := by decide +kernel
theorem dX11_bubble_14 : decode cX11_bubble 14 = .ok (.iload_n 2, 1) := by decide +kernel
theorem dX11_bubble_15 : decode cX11_bubble 15 = .ok (.invokevirtual 171, 3) := by decide +kernel
theorem dX11_bubble_18 : decode cX11_bubble 18 = .ok (.ifCond .ne 13, 3) := by decide +kernel
theorem dX11_bubble_21 : decode cX11_bubble 21 = .ok (.new 175, 3) := by decide +kernel
theorem dX11_bubble_24 : decode cX11_bubble 24 = .ok (.dup, 1) := by decide +kernel
theorem dX11_bubble_25 : decode cX11_bubble 25 = .ok (.ldc 177, 2) := by decide +kernel
theorem dX11_bubble_27 : decode cX11_bubble 27 = .ok (.invokespecial 179, 3) := by decide +kernel
theorem dX11_bubble_30 : decode cX11_bubble 30 = .ok (.athrow, 1) := by decide +kernel
theorem dX11_bubble_31 : decode cX11_bubble 31 = .ok (.iload_n 3, 1) := by decide +kernel
theorem dX11_bubble_32 : decode cX11_bubble 32 = .ok (.tableswitch 82 0 4 #[36, 44, 52, 60, 68], 36) := by decide +kernel
theorem dX11_bubble_68 : decode cX11_bubble 68 = .ok (.aload 4, 2) := by decide +kernel
theorem dX11_bubble_70 : decode cX11_bubble 70 = .ok (.getfield 182, 3) := by decide +kernel
theorem dX11_bubble_73 : decode cX11_bubble 73 = .ok (.iload_n 2, 1) := by decide +kernel
theorem dX11_bubble_74 : decode cX11_bubble 74 = .ok (.iaload, 1) := by decide +kernel
theorem dX11_bubble_75 : decode cX11_bubble 75 = .ok (.ireturn, 1) := by decide +kernel
theorem dX11_bubble_76 : decode cX11_bubble 76 = .ok (.aload 4, 2) := by decide +kernel
theorem dX11_bubble_78 : decode cX11_bubble 78 = .ok (.getfield 184, 3) := by decide +kernel
theorem dX11_bubble_81 : decode cX11_bubble 81 = .ok (.iload_n 2, 1) := by decide +kernel
theorem dX11_bubble_82 : decode cX11_bubble 82 = .ok (.iaload, 1) := by decide +kernel
theorem dX11_bubble_83 : decode cX11_bubble 83 = .ok (.ireturn, 1) := by decide +kernel
theorem dX11_bubble_84 : decode cX11_bubble 84 = .ok (.aload 4, 2) := by decide +kernel
theorem dX11_bubble_86 : decode cX11_bubble 86 = .ok (.getfield 187, 3) := by decide +kernel
theorem dX11_bubble_89 : decode cX11_bubble 89 = .ok (.iload_n 2, 1) := by decide +kernel
theorem dX11_bubble_90 : decode cX11_bubble 90 = .ok (.iaload, 1) := by decide +kernel
theorem dX11_bubble_91 : decode cX11_bubble 91 = .ok (.ireturn, 1) := by decide +kernel
theorem dX11_bubble_92 : decode cX11_bubble 92 = .ok (.aload 4, 2) := by decide +kernel
theorem dX11_bubble_94 : decode cX11_bubble 94 = .ok (.getfield 190, 3) := by decide +kernel
theorem dX11_bubble_97 : decode cX11_bubble 97 = .ok (.iload_n 2, 1) := by decide +kernel
theorem dX11_bubble_98 : decode cX11_bubble 98 = .ok (.iaload, 1) := by decide +kernel
theorem dX11_bubble_99 : decode cX11_bubble 99 = .ok (.ireturn, 1) := by decide +kernel
theorem dX11_bubble_100 : decode cX11_bubble 100 = .ok (.aload 4, 2) := by decide +kernel
theorem dX11_bubble_102 : decode cX11_bubble 102 = .ok (.getfield 193, 3) := by decide +kernel
theorem dX11_bubble_105 : decode cX11_bubble 105 = .ok (.aload 4, 2) := by decide +kernel
theorem dX11_bubble_107 : decode cX11_bubble 107 = .ok (.getfield 190, 3) := by decide +kernel
theorem dX11_bubble_110 : decode cX11_bubble 110 = .ok (.iload_n 2, 1) := by decide +kernel
theorem dX11_bubble_111 : decode cX11_bubble 111 = .ok (.iaload, 1) := by decide +kernel
theorem dX11_bubble_112 : decode cX11_bubble 112 = .ok (.iaload, 1) := by decide +kernel
theorem dX11_bubble_113 : decode cX11_bubble 113 = .ok (.ireturn, 1) := by decide +kernel
theorem dX11_bubble_114 : decode cX11_bubble 114 = .ok (.new 175, 3) := by decide +kernel
theorem dX11_bubble_117 : decode cX11_bubble 117 = .ok (.dup, 1) := by decide +kernel
theorem dX11_bubble_118 : decode cX11_bubble 118 = .ok (.ldc 196, 2) := by decide +kernel
theorem dX11_bubble_120 : decode cX11_bubble 120 = .ok (.invokespecial 179, 3) := by decide +kernel
theorem dX11_bubble_123 : decode cX11_bubble 123 = .ok (.athrow, 1) := by decide +kernel
theorem dX11_ends_0 : decode cX11_ends 0 = .ok (.aload_n 0, 1) := by decide +kernel
theorem dX11_ends_1 : decode cX11_ends 1 = .ok (.iload_n 1, 1) := by decide +kernel
theorem dX11_ends_2 : decode cX11_ends 2 = .ok (.invokevirtual 143, 3) := by decide +kernel
theorem dX11_ends_5 : decode cX11_ends 5 = .ok (.astore_n 3, 1) := by decide +kernel
theorem dX11_ends_6 : decode cX11_ends 6 = .ok (.aload_n 3, 1) := by decide +kernel
theorem dX11_ends_7 : decode cX11_ends 7 = .ok (.ifnull 11, 3) := by decide +kernel
theorem dX11_ends_10 : decode cX11_ends 10 = .ok (.aload_n 3, 1) := by decide +kernel
theorem dX11_ends_11 : decode cX11_ends 11 = .ok (.iload_n 2, 1) := by decide +kernel
theorem dX11_ends_12 : decode cX11_ends 12 = .ok (.invokevirtual 198, 3) := by decide +kernel
theorem dX11_ends_15 : decode cX11_ends 15 = .ok (.ifCond .ne 7, 3) := by decide +kernel
theorem dX11_ends_18 : decode cX11_ends 18 = .ok (.iconst (-1), 1) := by decide +kernel
theorem dX11_ends_19 : decode cX11_ends 19 = .ok (.goto 9, 3) := by decide +kernel
theorem dX11_ends_22 : decode cX11_ends 22 = .ok (.aload_n 3, 1) := by decide +kernel
theorem dX11_ends_23 : decode cX11_ends 23 = .ok (.getfield 201, 3) := by decide +kernel
theorem dX11_ends_26 : decode cX11_ends 26 = .ok (.iload_n 2, 1) := by decide +kernel
theorem dX11_ends_27 : decode cX11_ends 27 = .ok (.iaload, 1) := by decide +kernel
theorem dX11_ends_28 : decode cX11_ends 28 = .ok (.ireturn, 1) := by decide +kernel
theorem dX11_bursts_0 : decode cX11_bursts 0 = .ok (.aload_n 0, 1) := by decide +kernel
theorem dX11_bursts_1 : decode cX11_bursts 1 = .ok (.iload_n 1, 1) := by decide +kernel
theorem dX11_bursts_2 : decode cX11_bursts 2 = .ok (.invokevirtual 143, 3) := by decide +kernel
theorem dX11_bursts_5 : decode cX11_bursts 5 = .ok (.astore_n 3, 1) := by decide +kernel
theorem dX11_bursts_6 : decode cX11_bursts 6 = .ok (.aload_n 3, 1) := by decide +kernel
theorem dX11_bursts_7 : decode cX11_bursts 7 = .ok (.ifnull 11, 3) := by decide +kernel
theorem dX11_bursts_10 : decode cX11_bursts 10 = .ok (.aload_n 3, 1) := by decide +kernel
theorem dX11_bursts_11 : decode cX11_bursts 11 = .ok (.iload_n 2, 1) := by decide +kernel
theorem dX11_bursts_12 : decode cX11_bursts 12 = .ok (.invokevirtual 204, 3) := by decide +kernel
theorem dX11_bursts_15 : decode cX11_bursts 15 = .ok (.ifCond .ne 5, 3) := by decide +kernel
theorem dX11_bursts_18 : decode cX11_bursts 18 = .ok (.iconst (-1), 1) := by decide +kernel
theorem dX11_bursts_19 : decode cX11_bursts 19 = .ok (.ireturn, 1) := by decide +kernel
theorem dX11_bursts_20 : decode cX11_bursts 20 = .ok (.aload_n 3, 1) := by decide +kernel
theorem dX11_bursts_21 : decode cX11_bursts 21 = .ok (.getfield 193, 3) := by decide +kernel
theorem dX11_bursts_24 : decode cX11_bursts 24 = .ok (.iload_n 2, 1) := by decide +kernel
theorem dX11_bursts_25 : decode cX11_bursts 25 = .ok (.iaload, 1) := by decide +kernel
theorem dX11_bursts_26 : decode cX11_bursts 26 = .ok (.istore 4, 2) := by decide +kernel
theorem dX11_bursts_28 : decode cX11_bursts 28 = .ok (.aload_n 3, 1) := by decide +kernel
theorem dX11_bursts_29 : decode cX11_bursts 29 = .ok (.iload_n 2, 1) := by decide +kernel
theorem dX11_bursts_30 : decode cX11_bursts 30 = .ok (.aload_n 0, 1) := by decide +kernel
theorem dX11_bursts_31 : decode cX11_bursts 31 = .ok (.getfield 12, 3) := by decide +kernel
theorem dX11_bursts_34 : decode cX11_bursts 34 = .ok (.getfield 207, 3) := by decide +kernel
theorem dX11_bursts_37 : decode cX11_bursts 37 = .ok (.iload 4, 2) := by decide +kernel
theorem dX11_bursts_39 : decode cX11_bursts 39 = .ok (.iaload, 1) := by decide +kernel
theorem dX11_bursts_40 : decode cX11_bursts 40 = .ok (.aload_n 0, 1) := by decide +kernel
theorem dX11_bursts_41 : decode cX11_bursts 41 = .ok (.getfield 12, 3) := by decide +kernel
theorem dX11_bursts_44 : decode cX11_bursts 44 = .ok (.getfield 210, 3) := by decide +kernel
theorem dX11_bursts_47 : decode cX11_bursts 47 = .ok (.iload 4, 2) := by decide +kernel
theorem dX11_bursts_49 : decode cX11_bursts 49 = .ok (.iaload, 1) := by decide +kernel
theorem dX11_bursts_50 : decode cX11_bursts 50 = .ok (.invokevirtual 213, 3) := by decide +kernel
theorem dX11_bursts_53 : decode cX11_bursts 53 = .ok (.ireturn, 1) := by decide +kernel
theorem dX11_rest_0 : decode cX11_rest 0 = .ok (.aload_n 0, 1) := by decide +kernel
theorem dX11_rest_1 : decode cX11_rest 1 = .ok (.iload_n 1, 1) := by decide +kernel
theorem dX11_rest_2 : decode cX11_rest 2 = .ok (.invokevirtual 143, 3) := by decide +kernel
theorem dX11_rest_5 : decode cX11_rest 5 = .ok (.astore_n 3, 1) := by decide +kernel
theorem dX11_rest_6 : decode cX11_rest 6 = .ok (.aload_n 3, 1) := by decide +kernel
theorem dX11_rest_7 : decode cX11_rest 7 = .ok (.ifnull 11, 3) := by decide +kernel
theorem dX11_rest_10 : decode cX11_rest 10 = .ok (.aload_n 3, 1) := by decide +kernel
theorem dX11_rest_11 : decode cX11_rest 11 = .ok (.iload_n 2, 1) := by decide +kernel
theorem dX11_rest_12 : decode cX11_rest 12 = .ok (.invokevirtual 204, 3) := by decide +kernel
theorem dX11_rest_15 : decode cX11_rest 15 = .ok (.ifCond .ne 5, 3) := by decide +kernel
theorem dX11_rest_18 : decode cX11_rest 18 = .ok (.iconst (-1), 1) := by decide +kernel
theorem dX11_rest_19 : decode cX11_rest 19 = .ok (.ireturn, 1) := by decide +kernel
theorem dX11_rest_20 : decode cX11_rest 20 = .ok (.aload_n 3, 1) := by decide +kernel
theorem dX11_rest_21 : decode cX11_rest 21 = .ok (.getfield 193, 3) := by decide +kernel
theorem dX11_rest_24 : decode cX11_rest 24 = .ok (.iload_n 2, 1) := by decide +kernel
theorem dX11_rest_25 : decode cX11_rest 25 = .ok (.iaload, 1) := by decide +kernel
theorem dX11_rest_26 : decode cX11_rest 26 = .ok (.istore 4, 2) := by decide +kernel
theorem dX11_rest_28 : decode cX11_rest 28 = .ok (.iconst 0, 1) := by decide +kernel
theorem dX11_rest_29 : decode cX11_rest 29 = .ok (.aload_n 0, 1) := by decide +kernel
theorem dX11_rest_30 : decode cX11_rest 30 = .ok (.getfield 12, 3) := by decide +kernel
theorem dX11_rest_33 : decode cX11_rest 33 = .ok (.getfield 207, 3) := by decide +kernel
theorem dX11_rest_36 : decode cX11_rest 36 = .ok (.iload 4, 2) := by decide +kernel
theorem dX11_rest_38 : decode cX11_rest 38 = .ok (.iaload, 1) := by decide +kernel
theorem dX11_rest_39 : decode cX11_rest 39 = .ok (.aload_n 3, 1) := by decide +kernel
theorem dX11_rest_40 : decode cX11_rest 40 = .ok (.iload_n 2, 1) := by decide +kernel
theorem dX11_rest_41 : decode cX11_rest 41 = .ok (.aload_n 0, 1) := by decide +kernel
theorem dX11_rest_42 : decode cX11_rest 42 = .ok (.getfield 12, 3) := by decide +kernel
theorem dX11_rest_45 : decode cX11_rest 45 = .ok (.getfield 210, 3) := by decide +kernel
theorem dX11_rest_48 : decode cX11_rest 48 = .ok (.iload 4, 2) := by decide +kernel
theorem dX11_rest_50 : decode cX11_rest 50 = .ok (.iaload, 1) := by decide +kernel
theorem dX11_rest_51 : decode cX11_rest 51 = .ok (.invokevirtual 216, 3) := by decide +kernel
theorem dX11_rest_54 : decode cX11_rest 54 = .ok (.isub, 1) := by decide +kernel
theorem dX11_rest_55 : decode cX11_rest 55 = .ok (.invokestatic 220, 3) := by decide +kernel
theorem dX11_rest_58 : decode cX11_rest 58 = .ok (.ireturn, 1) := by decide +kernel
theorem dX11_hands_0 : decode cX11_hands 0 = .ok (.aload_n 0, 1) := by decide +kernel
theorem dX11_hands_1 : decode cX11_hands 1 = .ok (.iload_n 1, 1) := by decide +kernel
theorem dX11_hands_2 : decode cX11_hands 2 = .ok (.invokevirtual 143, 3) := by decide +kernel
theorem dX11_hands_5 : decode cX11_hands 5 = .ok (.astore_n 2, 1) := by decide +kernel
theorem dX11_hands_6 : decode cX11_hands 6 = .ok (.aload_n 2, 1) := by decide +kernel
theorem dX11_hands_7 : decode cX11_hands 7 = .ok (.ifnonnull 7, 3) := by decide +kernel
theorem dX11_hands_10 : decode cX11_hands 10 = .ok (.iconst (-1), 1) := by decide +kernel
theorem dX11_hands_11 : decode cX11_hands 11 = .ok (.goto 7, 3) := by decide +kernel
theorem dX11_hands_14 : decode cX11_hands 14 = .ok (.aload_n 2, 1) := by decide +kernel
theorem dX11_hands_15 : decode cX11_hands 15 = .ok (.getfield 225, 3) := by decide +kernel
theorem dX11_hands_18 : decode cX11_hands 18 = .ok (.ireturn, 1) := by decide +kernel
theorem dX11_holds_0 : decode cX11_holds 0 = .ok (.aload_n 0, 1) := by decide +kernel
theorem dX11_holds_1 : decode cX11_holds 1 = .ok (.iload_n 1, 1) := by decide +kernel
theorem dX11_holds_2 : decode cX11_holds 2 = .ok (.invokevirtual 143, 3) := by decide +kernel
theorem dX11_holds_5 : decode cX11_holds 5 = .ok (.astore_n 3, 1) := by decide +kernel
theorem dX11_holds_6 : decode cX11_holds 6 = .ok (.aload_n 3, 1) := by decide +kernel
theorem dX11_holds_7 : decode cX11_holds 7 = .ok (.ifnull 19, 3) := by decide +kernel
theorem dX11_holds_10 : decode cX11_holds 10 = .ok (.aload_n 3, 1) := by decide +kernel
theorem dX11_holds_11 : decode cX11_holds 11 = .ok (.iload_n 2, 1) := by decide +kernel
theorem dX11_holds_12 : decode cX11_holds 12 = .ok (.invokevirtual 171, 3) := by decide +kernel
theorem dX11_holds_15 : decode cX11_holds 15 = .ok (.ifCond .eq 11, 3) := by decide +kernel
theorem dX11_holds_18 : decode cX11_holds 18 = .ok (.aload_n 3, 1) := by decide +kernel
theorem dX11_holds_19 : decode cX11_holds 19 = .ok (.iload_n 2, 1) := by decide +kernel
theorem dX11_holds_20 : decode cX11_holds 20 = .ok (.invokevirtual 228, 3) := by decide +kernel
theorem dX11_holds_23 : decode cX11_holds 23 = .ok (.ifCond .ne 5, 3) := by decide +kernel
theorem dX11_holds_26 : decode cX11_holds 26 = .ok (.iconst (-1), 1) := by decide +kernel
theorem dX11_holds_27 : decode cX11_holds 27 = .ok (.ireturn, 1) := by decide +kernel
theorem dX11_holds_28 : decode cX11_holds 28 = .ok (.aload_n 3, 1) := by decide +kernel
theorem dX11_holds_29 : decode cX11_holds 29 = .ok (.iload_n 2, 1) := by decide +kernel
theorem dX11_holds_30 : decode cX11_holds 30 = .ok (.invokevirtual 231, 3) := by decide +kernel
theorem dX11_holds_33 : decode cX11_holds 33 = .ok (.ifCond .eq 7, 3) := by decide +kernel
theorem dX11_holds_36 : decode cX11_holds 36 = .ok (.iconst 0, 1) := by decide +kernel
theorem dX11_holds_37 : decode cX11_holds 37 = .ok (.goto 4, 3) := by decide +kernel
theorem dX11_holds_40 : decode cX11_holds 40 = .ok (.iconst 1, 1) := by decide +kernel
theorem dX11_holds_41 : decode cX11_holds 41 = .ok (.ireturn, 1) := by decide +kernel
theorem dX11_plain_0 : decode cX11_plain 0 = .ok (.aload_n 0, 1) := by decide +kernel
theorem dX11_plain_1 : decode cX11_plain 1 = .ok (.iload_n 1, 1) := by decide +kernel
theorem dX11_plain_2 : decode cX11_plain 2 = .ok (.invokevirtual 143, 3) := by decide +kernel
theorem dX11_plain_5 : decode cX11_plain 5 = .ok (.astore_n 2, 1) := by decide +kernel
theorem dX11_plain_6 : decode cX11_plain 6 = .ok (.aload_n 0, 1) := by decide +kernel
theorem dX11_plain_7 : decode cX11_plain 7 = .ok (.invokevirtual 119, 3) := by decide +kernel
theorem dX11_plain_10 : decode cX11_plain 10 = .ok (.astore_n 3, 1) := by decide +kernel
theorem dX11_plain_11 : decode cX11_plain 11 = .ok (.aload_n 2, 1) := by decide +kernel
theorem dX11_plain_12 : decode cX11_plain 12 = .ok (.ifnull 7, 3) := by decide +kernel
theorem dX11_plain_15 : decode cX11_plain 15 = .ok (.aload_n 3, 1) := by decide +kernel
theorem dX11_plain_16 : decode cX11_plain 16 = .ok (.ifnonnull 5, 3) := by decide +kernel
theorem dX11_plain_19 : decode cX11_plain 19 = .ok (.iconst (-1), 1) := by decide +kernel
theorem dX11_plain_20 : decode cX11_plain 20 = .ok (.ireturn, 1) := by decide +kernel
theorem dX11_plain_21 : decode cX11_plain 21 = .ok (.aload_n 3, 1) := by decide +kernel
theorem dX11_plain_22 : decode cX11_plain 22 = .ok (.aload_n 2, 1) := by decide +kernel
theorem dX11_plain_23 : decode cX11_plain 23 = .ok (.aload_n 0, 1) := by decide +kernel
theorem dX11_plain_24 : decode cX11_plain 24 = .ok (.getfield 88, 3) := by decide +kernel
theorem dX11_plain_27 : decode cX11_plain 27 = .ok (.invokevirtual 234, 3) := by decide +kernel
theorem dX11_plain_30 : decode cX11_plain 30 = .ok (.aload_n 0, 1) := by decide +kernel
theorem dX11_plain_31 : decode cX11_plain 31 = .ok (.dup, 1) := by decide +kernel
theorem dX11_plain_32 : decode cX11_plain 32 = .ok (.getfield 131, 3) := by decide +kernel
theorem dX11_plain_35 : decode cX11_plain 35 = .ok (.dup_x1, 1) := by decide +kernel
theorem dX11_plain_36 : decode cX11_plain 36 = .ok (.iconst 1, 1) := by decide +kernel
theorem dX11_plain_37 : decode cX11_plain 37 = .ok (.iadd, 1) := by decide +kernel
theorem dX11_plain_38 : decode cX11_plain 38 = .ok (.putfield 131, 3) := by decide +kernel
theorem dX11_plain_41 : decode cX11_plain 41 = .ok (.ireturn, 1) := by decide +kernel
theorem dX11_pop_0 : decode cX11_pop 0 = .ok (.aload_n 0, 1) := by decide +kernel
theorem dX11_pop_1 : decode cX11_pop 1 = .ok (.iload_n 1, 1) := by decide +kernel
theorem dX11_pop_2 : decode cX11_pop 2 = .ok (.invokevirtual 143, 3) := by decide +kernel
theorem dX11_pop_5 : decode cX11_pop 5 = .ok (.astore 4, 2) := by decide +kernel
theorem dX11_pop_7 : decode cX11_pop 7 = .ok (.aload 4, 2) := by decide +kernel
theorem dX11_pop_9 : decode cX11_pop 9 = .ok (.ifnull 12, 3) := by decide +kernel
theorem dX11_pop_12 : decode cX11_pop 12 = .ok (.aload 4, 2) := by decide +kernel
theorem dX11_pop_14 : decode cX11_pop 14 = .ok (.iload_n 2, 1) := by decide +kernel
theorem dX11_pop_15 : decode cX11_pop 15 = .ok (.invokevirtual 171, 3) := by decide +kernel
theorem dX11_pop_18 : decode cX11_pop 18 = .ok (.ifCond .ne 5, 3) := by decide +kernel
theorem dX11_pop_21 : decode cX11_pop 21 = .ok (.iconst (-1), 1) := by decide +kernel
theorem dX11_pop_22 : decode cX11_pop 22 = .ok (.ireturn, 1) := by decide +kernel
theorem dX11_pop_23 : decode cX11_pop 23 = .ok (.aload_n 0, 1) := by decide +kernel
theorem dX11_pop_24 : decode cX11_pop 24 = .ok (.getfield 52, 3) := by decide +kernel
theorem dX11_pop_27 : decode cX11_pop 27 = .ok (.aload 4, 2) := by decide +kernel
theorem dX11_pop_29 : decode cX11_pop 29 = .ok (.iconst 1, 1) := by decide +kernel
theorem dX11_pop_30 : decode cX11_pop 30 = .ok (.iload_n 2, 1) := by decide +kernel
theorem dX11_pop_31 : decode cX11_pop 31 = .ok (.ishl, 1) := by decide +kernel
theorem dX11_pop_32 : decode cX11_pop 32 = .ok (.invokevirtual 238, 3) := by decide +kernel
theorem dX11_pop_35 : decode cX11_pop 35 = .ok (.istore 5, 2) := by decide +kernel
theorem dX11_pop_37 : decode cX11_pop 37 = .ok (.iload_n 3, 1) := by decide +kernel
theorem dX11_pop_38 : decode cX11_pop 38 = .ok (.tableswitch 47 0 2 #[26, 29, 35], 26) := by decide +kernel
theorem dX11_pop_64 : decode cX11_pop 64 = .ok (.iload 5, 2) := by decide +kernel
theorem dX11_pop_66 : decode cX11_pop 66 = .ok (.ireturn, 1) := by decide +kernel
theorem dX11_pop_67 : decode cX11_pop 67 = .ok (.iload 5, 2) := by decide +kernel
theorem dX11_pop_69 : decode cX11_pop 69 = .ok (.invokestatic 166, 3) := by decide +kernel
theorem dX11_pop_72 : decode cX11_pop 72 = .ok (.ireturn, 1) := by decide +kernel
theorem dX11_pop_73 : decode cX11_pop 73 = .ok (.aload_n 0, 1) := by decide +kernel
theorem dX11_pop_74 : decode cX11_pop 74 = .ok (.getfield 52, 3) := by decide +kernel
theorem dX11_pop_77 : decode cX11_pop 77 = .ok (.aload 4, 2) := by decide +kernel
theorem dX11_pop_79 : decode cX11_pop 79 = .ok (.iload 5, 2) := by decide +kernel
theorem dX11_pop_81 : decode cX11_pop 81 = .ok (.invokevirtual 242, 3) := by decide +kernel
theorem dX11_pop_84 : decode cX11_pop 84 = .ok (.ireturn, 1) := by decide +kernel
theorem dX11_pop_85 : decode cX11_pop 85 = .ok (.iconst (-1), 1) := by decide +kernel
theorem dX11_pop_86 : decode cX11_pop 86 = .ok (.ireturn, 1) := by decide +kernel
theorem dX11_weakest_0 : decode cX11_weakest 0 = .ok (.aload_n 0, 1) := by decide +kernel
theorem dX11_weakest_1 : decode cX11_weakest 1 = .ok (.iload_n 1, 1) := by decide +kernel
theorem dX11_weakest_2 : decode cX11_weakest 2 = .ok (.invokevirtual 143, 3) := by decide +kernel
theorem dX11_weakest_5 : decode cX11_weakest 5 = .ok (.astore_n 2, 1) := by decide +kernel
theorem dX11_weakest_6 : decode cX11_weakest 6 = .ok (.aload_n 2, 1) := by decide +kernel
theorem dX11_weakest_7 : decode cX11_weakest 7 = .ok (.ifnonnull 7, 3) := by decide +kernel
theorem dX11_weakest_10 : decode cX11_weakest 10 = .ok (.iconst (-1), 1) := by decide +kernel
theorem dX11_weakest_11 : decode cX11_weakest 11 = .ok (.goto 11, 3) := by decide +kernel
theorem dX11_weakest_14 : decode cX11_weakest 14 = .ok (.aload_n 0, 1) := by decide +kernel
theorem dX11_weakest_15 : decode cX11_weakest 15 = .ok (.getfield 52, 3) := by decide +kernel
theorem dX11_weakest_18 : decode cX11_weakest 18 = .ok (.aload_n 2, 1) := by decide +kernel
theorem dX11_weakest_19 : decode cX11_weakest 19 = .ok (.invokevirtual 245, 3) := by decide +kernel
theorem dX11_weakest_22 : decode cX11_weakest 22 = .ok (.ireturn, 1) := by decide +kernel
theorem dX11_add_0 : decode cX11_add 0 = .ok (.aload_n 0, 1) := by decide +kernel
theorem dX11_add_1 : decode cX11_add 1 = .ok (.iload_n 1, 1) := by decide +kernel
theorem dX11_add_2 : decode cX11_add 2 = .ok (.invokevirtual 143, 3) := by decide +kernel
theorem dX11_add_5 : decode cX11_add 5 = .ok (.astore 5, 2) := by decide +kernel
theorem dX11_add_7 : decode cX11_add 7 = .ok (.aload_n 0, 1) := by decide +kernel
theorem dX11_add_8 : decode cX11_add 8 = .ok (.iload_n 2, 1) := by decide +kernel
theorem dX11_add_9 : decode cX11_add 9 = .ok (.invokevirtual 143, 3) := by decide +kernel
theorem dX11_add_12 : decode cX11_add 12 = .ok (.astore 6, 2) := by decide +kernel
theorem dX11_add_14 : decode cX11_add 14 = .ok (.aload_n 0, 1) := by decide +kernel
theorem dX11_add_15 : decode cX11_add 15 = .ok (.invokevirtual 119, 3) := by decide +kernel
theorem dX11_add_18 : decode cX11_add 18 = .ok (.astore 7, 2) := by decide +kernel
theorem dX11_add_20 : decode cX11_add 20 = .ok (.aload 5, 2) := by decide +kernel
theorem dX11_add_22 : decode cX11_add 22 = .ok (.ifnull 32, 3) := by decide +kernel
theorem dX11_add_25 : decode cX11_add 25 = .ok (.aload 6, 2) := by decide +kernel
theorem dX11_add_27 : decode cX11_add 27 = .ok (.ifnull 27, 3) := by decide +kernel
theorem dX11_add_30 : decode cX11_add 30 = .ok (.aload 7, 2) := by decide +kernel
theorem dX11_add_32 : decode cX11_add 32 = .ok (.ifnull 22, 3) := by decide +kernel
theorem dX11_add_35 : decode cX11_add 35 = .ok (.aload 5, 2) := by decide +kernel
theorem dX11_add_37 : decode cX11_add 37 = .ok (.iload_n 3, 1) := by decide +kernel
theorem dX11_add_38 : decode cX11_add 38 = .ok (.invokevirtual 198, 3) := by decide +kernel
theorem dX11_add_41 : decode cX11_add 41 = .ok (.ifCond .eq 13, 3) := by decide +kernel
theorem dX11_add_44 : decode cX11_add 44 = .ok (.aload 6, 2) := by decide +kernel
theorem dX11_add_46 : decode cX11_add 46 = .ok (.iload 4, 2) := by decide +kernel
theorem dX11_add_48 : decode cX11_add 48 = .ok (.invokevirtual 198, 3) := by decide +kernel
theorem dX11_add_51 : decode cX11_add 51 = .ok (.ifCond .ne 5, 3) := by decide +kernel
theorem dX11_add_54 : decode cX11_add 54 = .ok (.iconst (-1), 1) := by decide +kernel
theorem dX11_add_55 : decode cX11_add 55 = .ok (.ireturn, 1) := by decide +kernel
theorem dX11_add_56 : decode cX11_add 56 = .ok (.aload 5, 2) := by decide +kernel
theorem dX11_add_58 : decode cX11_add 58 = .ok (.getfield 150, 3) := by decide +kernel
theorem dX11_add_61 : decode cX11_add 61 = .ok (.aload 6, 2) := by decide +kernel
theorem dX11_add_63 : decode cX11_add 63 = .ok (.getfield 150, 3) := by decide +kernel
theorem dX11_add_66 : decode cX11_add 66 = .ok (.iadd, 1) := by decide +kernel
theorem dX11_add_67 : decode cX11_add 67 = .ok (.bipush 24, 2) := by decide +kernel
theorem dX11_add_69 : decode cX11_add 69 = .ok (.if_icmp .gt 19, 3) := by decide +kernel
theorem dX11_add_72 : decode cX11_add 72 = .ok (.aload 5, 2) := by decide +kernel
theorem dX11_add_74 : decode cX11_add 74 = .ok (.getfield 147, 3) := by decide +kernel
theorem dX11_add_77 : decode cX11_add 77 = .ok (.aload 6, 2) := by decide +kernel
theorem dX11_add_79 : decode cX11_add 79 = .ok (.getfield 147, 3) := by decide +kernel
theorem dX11_add_82 : decode cX11_add 82 = .ok (.iadd, 1) := by decide +kernel
theorem dX11_add_83 : decode cX11_add 83 = .ok (.bipush 6, 2) := by decide +kernel
theorem dX11_add_85 : decode cX11_add 85 = .ok (.if_icmp .le 5, 3) := by decide +kernel
theorem dX11_add_88 : decode cX11_add 88 = .ok (.iconst (-1), 1) := by decide +kernel
theorem dX11_add_89 : decode cX11_add 89 = .ok (.ireturn, 1) := by decide +kernel
theorem dX11_add_90 : decode cX11_add 90 = .ok (.aload 7, 2) := by decide +kernel
theorem dX11_add_92 : decode cX11_add 92 = .ok (.aload 5, 2) := by decide +kernel
theorem dX11_add_94 : decode cX11_add 94 = .ok (.aload 6, 2) := by decide +kernel
theorem dX11_add_96 : decode cX11_add 96 = .ok (.iload_n 3, 1) := by decide +kernel
theorem dX11_add_97 : decode cX11_add 97 = .ok (.iload 4, 2) := by decide +kernel
theorem dX11_add_99 : decode cX11_add 99 = .ok (.invokevirtual 249, 3) := by decide +kernel
theorem dX11_add_102 : decode cX11_add 102 = .ok (.aload_n 0, 1) := by decide +kernel
theorem dX11_add_103 : decode cX11_add 103 = .ok (.dup, 1) := by decide +kernel
theorem dX11_add_104 : decode cX11_add 104 = .ok (.getfield 131, 3) := by decide +kernel
theorem dX11_add_107 : decode cX11_add 107 = .ok (.dup_x1, 1) := by decide +kernel
theorem dX11_add_108 : decode cX11_add 108 = .ok (.iconst 1, 1) := by decide +kernel
theorem dX11_add_109 : decode cX11_add 109 = .ok (.iadd, 1) := by decide +kernel
theorem dX11_add_110 : decode cX11_add 110 = .ok (.putfield 131, 3) := by decide +kernel
theorem dX11_add_113 : decode cX11_add 113 = .ok (.ireturn, 1) := by decide +kernel
theorem dX11_alike_0 : decode cX11_alike 0 = .ok (.aload_n 0, 1) := by decide +kernel
theorem dX11_alike_1 : decode cX11_alike 1 = .ok (.iload_n 1, 1) := by decide +kernel
theorem dX11_alike_2 : decode cX11_alike 2 = .ok (.invokevirtual 143, 3) := by decide +kernel
theorem dX11_alike_5 : decode cX11_alike 5 = .ok (.astore_n 3, 1) := by decide +kernel
theorem dX11_alike_6 : decode cX11_alike 6 = .ok (.aload_n 0, 1) := by decide +kernel
theorem dX11_alike_7 : decode cX11_alike 7 = .ok (.iload_n 2, 1) := by decide +kernel
theorem dX11_alike_8 : decode cX11_alike 8 = .ok (.invokevirtual 143, 3) := by decide +kernel
theorem dX11_alike_11 : decode cX11_alike 11 = .ok (.astore 4, 2) := by decide +kernel
theorem dX11_alike_13 : decode cX11_alike 13 = .ok (.aload_n 3, 1) := by decide +kernel
theorem dX11_alike_14 : decode cX11_alike 14 = .ok (.invokestatic 253, 3) := by decide +kernel
theorem dX11_alike_17 : decode cX11_alike 17 = .ok (.ifCond .eq 11, 3) := by decide +kernel
theorem dX11_alike_20 : decode cX11_alike 20 = .ok (.aload 4, 2) := by decide +kernel
theorem dX11_alike_22 : decode cX11_alike 22 = .ok (.invokestatic 253, 3) := by decide +kernel
theorem dX11_alike_25 : decode cX11_alike 25 = .ok (.ifCond .ne 5, 3) := by decide +kernel
theorem dX11_alike_28 : decode cX11_alike 28 = .ok (.iconst (-1), 1) := by decide +kernel
theorem dX11_alike_29 : decode cX11_alike 29 = .ok (.ireturn, 1) := by decide +kernel
theorem dX11_alike_30 : decode cX11_alike 30 = .ok (.aload_n 0, 1) := by decide +kernel
theorem dX11_alike_31 : decode cX11_alike 31 = .ok (.getfield 59, 3) := by decide +kernel
theorem dX11_alike_34 : decode cX11_alike 34 = .ok (.aload_n 3, 1) := by decide +kernel
theorem dX11_alike_35 : decode cX11_alike 35 = .ok (.aload 4, 2) := by decide +kernel
theorem dX11_alike_37 : decode cX11_alike 37 = .ok (.invokevirtual 257, 3) := by decide +kernel
theorem dX11_alike_40 : decode cX11_alike 40 = .ok (.ifCond .eq 7, 3) := by decide +kernel
theorem dX11_alike_43 : decode cX11_alike 43 = .ok (.iconst 1, 1) := by decide +kernel
theorem dX11_alike_44 : decode cX11_alike 44 = .ok (.goto 4, 3) := by decide +kernel
theorem dX11_alike_47 : decode cX11_alike 47 = .ok (.iconst 0, 1) := by decide +kernel
theorem dX11_alike_48 : decode cX11_alike 48 = .ok (.ireturn, 1) := by decide +kernel
theorem dX11_match_0 : decode cX11_match 0 = .ok (.aload_n 0, 1) := by decide +kernel
theorem dX11_match_1 : decode cX11_match 1 = .ok (.iload_n 1, 1) := by decide +kernel
theorem dX11_match_2 : decode cX11_match 2 = .ok (.invokevirtual 143, 3) := by decide +kernel
theorem dX11_match_5 : decode cX11_match 5 = .ok (.astore 4, 2) := by decide +kernel
theorem dX11_match_7 : decode cX11_match 7 = .ok (.aload_n 0, 1) := by decide +kernel
theorem dX11_match_8 : decode cX11_match 8 = .ok (.iload_n 2, 1) := by decide +kernel
theorem dX11_match_9 : decode cX11_match 9 = .ok (.invokevirtual 143, 3) := by decide +kernel
theorem dX11_match_12 : decode cX11_match 12 = .ok (.astore 5, 2) := by decide +kernel
theorem dX11_match_14 : decode cX11_match 14 = .ok (.aload 4, 2) := by decide +kernel
theorem dX11_match_16 : decode cX11_match 16 = .ok (.invokestatic 253, 3) := by decide +kernel
theorem dX11_match_19 : decode cX11_match 19 = .ok (.ifCond .eq 20, 3) := by decide +kernel
theorem dX11_match_22 : decode cX11_match 22 = .ok (.aload 5, 2) := by decide +kernel
theorem dX11_match_24 : decode cX11_match 24 = .ok (.invokestatic 253, 3) := by decide +kernel
theorem dX11_match_27 : decode cX11_match 27 = .ok (.ifCond .eq 12, 3) := by decide +kernel
theorem dX11_match_30 : decode cX11_match 30 = .ok (.aload 4, 2) := by decide +kernel
theorem dX11_match_32 : decode cX11_match 32 = .ok (.iload_n 3, 1) := by decide +kernel
theorem dX11_match_33 : decode cX11_match 33 = .ok (.invokevirtual 198, 3) := by decide +kernel
theorem dX11_match_36 : decode cX11_match 36 = .ok (.ifCond .ne 5, 3) := by decide +kernel
theorem dX11_match_39 : decode cX11_match 39 = .ok (.iconst (-1), 1) := by decide +kernel
theorem dX11_match_40 : decode cX11_match 40 = .ok (.ireturn, 1) := by decide +kernel
theorem dX11_match_41 : decode cX11_match 41 = .ok (.aload_n 0, 1) := by decide +kernel
theorem dX11_match_42 : decode cX11_match 42 = .ok (.getfield 59, 3) := by decide +kernel
theorem dX11_match_45 : decode cX11_match 45 = .ok (.aload 4, 2) := by decide +kernel
theorem dX11_match_47 : decode cX11_match 47 = .ok (.aload 5, 2) := by decide +kernel
theorem dX11_match_49 : decode cX11_match 49 = .ok (.invokevirtual 257, 3) := by decide +kernel
theorem dX11_match_52 : decode cX11_match 52 = .ok (.ifCond .eq 15, 3) := by decide +kernel
theorem dX11_match_55 : decode cX11_match 55 = .ok (.aload_n 0, 1) := by decide +kernel
theorem dX11_match_56 : decode cX11_match 56 = .ok (.getfield 59, 3) := by decide +kernel
theorem dX11_match_59 : decode cX11_match 59 = .ok (.getfield 261, 3) := by decide +kernel
theorem dX11_match_62 : decode cX11_match 62 = .ok (.iload_n 3, 1) := by decide +kernel
theorem dX11_match_63 : decode cX11_match 63 = .ok (.iaload, 1) := by decide +kernel
theorem dX11_match_64 : decode cX11_match 64 = .ok (.goto 4, 3) := by decide +kernel
theorem dX11_match_67 : decode cX11_match 67 = .ok (.iconst (-1), 1) := by decide +kernel
theorem dX11_match_68 : decode cX11_match 68 = .ok (.ireturn, 1) := by decide +kernel
theorem dX11_far_0 : decode cX11_far 0 = .ok (.aload_n 0, 1) := by decide +kernel
theorem dX11_far_1 : decode cX11_far 1 = .ok (.iload_n 1, 1) := by decide +kernel
theorem dX11_far_2 : decode cX11_far 2 = .ok (.invokevirtual 143, 3) := by decide +kernel
theorem dX11_far_5 : decode cX11_far 5 = .ok (.astore 4, 2) := by decide +kernel
theorem dX11_far_7 : decode cX11_far 7 = .ok (.aload 4, 2) := by decide +kernel
theorem dX11_far_9 : decode cX11_far 9 = .ok (.ifnull 21, 3) := by decide +kernel
theorem dX11_far_12 : decode cX11_far 12 = .ok (.aload 4, 2) := by decide +kernel
theorem dX11_far_14 : decode cX11_far 14 = .ok (.iload_n 2, 1) := by decide +kernel
theorem dX11_far_15 : decode cX11_far 15 = .ok (.invokevirtual 198, 3) := by decide +kernel
theorem dX11_far_18 : decode cX11_far 18 = .ok (.ifCond .eq 12, 3) := by decide +kernel
theorem dX11_far_21 : decode cX11_far 21 = .ok (.aload 4, 2) := by decide +kernel
theorem dX11_far_23 : decode cX11_far 23 = .ok (.iload_n 3, 1) := by decide +kernel
theorem dX11_far_24 : decode cX11_far 24 = .ok (.invokevirtual 198, 3) := by decide +kernel
theorem dX11_far_27 : decode cX11_far 27 = .ok (.ifCond .ne 5, 3) := by decide +kernel
theorem dX11_far_30 : decode cX11_far 30 = .ok (.iconst (-1), 1) := by decide +kernel
theorem dX11_far_31 : decode cX11_far 31 = .ok (.ireturn, 1) := by decide +kernel
theorem dX11_far_32 : decode cX11_far 32 = .ok (.aload_n 0, 1) := by decide +kernel
theorem dX11_far_33 : decode cX11_far 33 = .ok (.getfield 52, 3) := by decide +kernel
theorem dX11_far_36 : decode cX11_far 36 = .ok (.aload 4, 2) := by decide +kernel
theorem dX11_far_38 : decode cX11_far 38 = .ok (.iload_n 2, 1) := by decide +kernel
theorem dX11_far_39 : decode cX11_far 39 = .ok (.invokevirtual 264, 3) := by decide +kernel
theorem dX11_far_42 : decode cX11_far 42 = .ok (.aload_n 0, 1) := by decide +kernel
theorem dX11_far_43 : decode cX11_far 43 = .ok (.getfield 52, 3) := by decide +kernel
theorem dX11_far_46 : decode cX11_far 46 = .ok (.getfield 268, 3) := by decide +kernel
theorem dX11_far_49 : decode cX11_far 49 = .ok (.iload_n 3, 1) := by decide +kernel
theorem dX11_far_50 : decode cX11_far 50 = .ok (.iaload, 1) := by decide +kernel
theorem dX11_far_51 : decode cX11_far 51 = .ok (.ireturn, 1) := by decide +kernel
theorem dX11_span_0 : decode cX11_span 0 = .ok (.aload_n 0, 1) := by decide +kernel
theorem dX11_span_1 : decode cX11_span 1 = .ok (.iload_n 1, 1) := by decide +kernel
theorem dX11_span_2 : decode cX11_span 2 = .ok (.invokevirtual 143, 3) := by decide +kernel
theorem dX11_span_5 : decode cX11_span 5 = .ok (.astore_n 2, 1) := by decide +kernel
theorem dX11_span_6 : decode cX11_span 6 = .ok (.aload_n 2, 1) := by decide +kernel
theorem dX11_span_7 : decode cX11_span 7 = .ok (.ifnonnull 7, 3) := by decide +kernel
theorem dX11_span_10 : decode cX11_span 10 = .ok (.iconst (-1), 1) := by decide +kernel
theorem dX11_span_11 : decode cX11_span 11 = .ok (.goto 11, 3) := by decide +kernel
theorem dX11_span_14 : decode cX11_span 14 = .ok (.aload_n 0, 1) := by decide +kernel
theorem dX11_span_15 : decode cX11_span 15 = .ok (.getfield 52, 3) := by decide +kernel
theorem dX11_span_18 : decode cX11_span 18 = .ok (.aload_n 2, 1) := by decide +kernel
theorem dX11_span_19 : decode cX11_span 19 = .ok (.invokevirtual 271, 3) := by decide +kernel
theorem dX11_span_22 : decode cX11_span 22 = .ok (.ireturn, 1) := by decide +kernel
theorem dX11_strokes_0 : decode cX11_strokes 0 = .ok (.aload_n 0, 1) := by decide +kernel
theorem dX11_strokes_1 : decode cX11_strokes 1 = .ok (.iload_n 1, 1) := by decide +kernel
theorem dX11_strokes_2 : decode cX11_strokes 2 = .ok (.invokevirtual 143, 3) := by decide +kernel
theorem dX11_strokes_5 : decode cX11_strokes 5 = .ok (.astore_n 2, 1) := by decide +kernel
theorem dX11_strokes_6 : decode cX11_strokes 6 = .ok (.aload_n 2, 1) := by decide +kernel
theorem dX11_strokes_7 : decode cX11_strokes 7 = .ok (.ifnonnull 7, 3) := by decide +kernel
theorem dX11_strokes_10 : decode cX11_strokes 10 = .ok (.iconst (-1), 1) := by decide +kernel
theorem dX11_strokes_11 : decode cX11_strokes 11 = .ok (.goto 11, 3) := by decide +kernel
theorem dX11_strokes_14 : decode cX11_strokes 14 = .ok (.aload_n 0, 1) := by decide +kernel
theorem dX11_strokes_15 : decode cX11_strokes 15 = .ok (.getfield 52, 3) := by decide +kernel
theorem dX11_strokes_18 : decode cX11_strokes 18 = .ok (.aload_n 2, 1) := by decide +kernel
theorem dX11_strokes_19 : decode cX11_strokes 19 = .ok (.invokevirtual 274, 3) := by decide +kernel
theorem dX11_strokes_22 : decode cX11_strokes 22 = .ok (.ireturn, 1) := by decide +kernel
theorem dX11_made_0 : decode cX11_made 0 = .ok (.aload_n 0, 1) := by decide +kernel
theorem dX11_made_1 : decode cX11_made 1 = .ok (.iload_n 1, 1) := by decide +kernel
theorem dX11_made_2 : decode cX11_made 2 = .ok (.invokevirtual 143, 3) := by decide +kernel
theorem dX11_made_5 : decode cX11_made 5 = .ok (.astore_n 3, 1) := by decide +kernel
theorem dX11_made_6 : decode cX11_made 6 = .ok (.aload_n 3, 1) := by decide +kernel
theorem dX11_made_7 : decode cX11_made 7 = .ok (.ifnull 23, 3) := by decide +kernel
theorem dX11_made_10 : decode cX11_made 10 = .ok (.aload_n 0, 1) := by decide +kernel
theorem dX11_made_11 : decode cX11_made 11 = .ok (.getfield 12, 3) := by decide +kernel
theorem dX11_made_14 : decode cX11_made 14 = .ok (.iload_n 2, 1) := by decide +kernel
theorem dX11_made_15 : decode cX11_made 15 = .ok (.invokevirtual 277, 3) := by decide +kernel
theorem dX11_made_18 : decode cX11_made 18 = .ok (.ifCond .eq 12, 3) := by decide +kernel
theorem dX11_made_21 : decode cX11_made 21 = .ok (.aload_n 3, 1) := by decide +kernel
theorem dX11_made_22 : decode cX11_made 22 = .ok (.getfield 150, 3) := by decide +kernel
theorem dX11_made_25 : decode cX11_made 25 = .ok (.bipush 10, 2) := by decide +kernel
theorem dX11_made_27 : decode cX11_made 27 = .ok (.if_icmp .le 5, 3) := by decide +kernel
theorem dX11_made_30 : decode cX11_made 30 = .ok (.iconst (-1), 1) := by decide +kernel
theorem dX11_made_31 : decode cX11_made 31 = .ok (.ireturn, 1) := by decide +kernel
theorem dX11_made_32 : decode cX11_made 32 = .ok (.aload_n 0, 1) := by decide +kernel
theorem dX11_made_33 : decode cX11_made 33 = .ok (.getfield 66, 3) := by decide +kernel
theorem dX11_made_36 : decode cX11_made 36 = .ok (.aload_n 3, 1) := by decide +kernel
theorem dX11_made_37 : decode cX11_made 37 = .ok (.iload_n 1, 1) := by decide +kernel
theorem dX11_made_38 : decode cX11_made 38 = .ok (.iload_n 2, 1) := by decide +kernel
theorem dX11_made_39 : decode cX11_made 39 = .ok (.aload_n 0, 1) := by decide +kernel
theorem dX11_made_40 : decode cX11_made 40 = .ok (.getfield 12, 3) := by decide +kernel
theorem dX11_made_43 : decode cX11_made 43 = .ok (.invokevirtual 280, 3) := by decide +kernel
theorem dX11_made_46 : decode cX11_made 46 = .ok (.ireturn, 1) := by decide +kernel
theorem dX11_set_0 : decode cX11_set 0 = .ok (.aload_n 0, 1) := by decide +kernel
theorem dX11_set_1 : decode cX11_set 1 = .ok (.iload_n 1, 1) := by decide +kernel
theorem dX11_set_2 : decode cX11_set 2 = .ok (.iload_n 2, 1) := by decide +kernel
theorem dX11_set_3 : decode cX11_set 3 = .ok (.invokevirtual 284, 3) := by decide +kernel
theorem dX11_set_6 : decode cX11_set 6 = .ok (.istore 4, 2) := by decide +kernel
theorem dX11_set_8 : decode cX11_set 8 = .ok (.iload_n 3, 1) := by decide +kernel
theorem dX11_set_9 : decode cX11_set 9 = .ok (.ifCond .lt 9, 3) := by decide +kernel
theorem dX11_set_12 : decode cX11_set 12 = .ok (.iload_n 3, 1) := by decide +kernel
theorem dX11_set_13 : decode cX11_set 13 = .ok (.iload 4, 2) := by decide +kernel
theorem dX11_set_15 : decode cX11_set 15 = .ok (.if_icmp .lt 7, 3) := by decide +kernel
theorem dX11_set_18 : decode cX11_set 18 = .ok (.iconst (-1), 1) := by decide +kernel
theorem dX11_set_19 : decode cX11_set 19 = .ok (.goto 13, 3) := by decide +kernel
theorem dX11_set_22 : decode cX11_set 22 = .ok (.aload_n 0, 1) := by decide +kernel
theorem dX11_set_23 : decode cX11_set 23 = .ok (.getfield 66, 3) := by decide +kernel
theorem dX11_set_26 : decode cX11_set 26 = .ok (.iload_n 1, 1) := by decide +kernel
theorem dX11_set_27 : decode cX11_set 27 = .ok (.iload_n 2, 1) := by decide +kernel
theorem dX11_set_28 : decode cX11_set 28 = .ok (.iload_n 3, 1) := by decide +kernel
theorem dX11_set_29 : decode cX11_set 29 = .ok (.invokevirtual 287, 3) := by decide +kernel
theorem dX11_set_32 : decode cX11_set 32 = .ok (.ireturn, 1) := by decide +kernel
theorem dX11_twice_0 : decode cX11_twice 0 = .ok (.aload_n 0, 1) := by decide +kernel
theorem dX11_twice_1 : decode cX11_twice 1 = .ok (.iload_n 1, 1) := by decide +kernel
theorem dX11_twice_2 : decode cX11_twice 2 = .ok (.invokevirtual 143, 3) := by decide +kernel
theorem dX11_twice_5 : decode cX11_twice 5 = .ok (.astore_n 2, 1) := by decide +kernel
theorem dX11_twice_6 : decode cX11_twice 6 = .ok (.aload_n 2, 1) := by decide +kernel
theorem dX11_twice_7 : decode cX11_twice 7 = .ok (.ifnonnull 7, 3) := by decide +kernel
theorem dX11_twice_10 : decode cX11_twice 10 = .ok (.iconst (-1), 1) := by decide +kernel
theorem dX11_twice_11 : decode cX11_twice 11 = .ok (.goto 11, 3) := by decide +kernel
theorem dX11_twice_14 : decode cX11_twice 14 = .ok (.aload_n 0, 1) := by decide +kernel
theorem dX11_twice_15 : decode cX11_twice 15 = .ok (.getfield 52, 3) := by decide +kernel
theorem dX11_twice_18 : decode cX11_twice 18 = .ok (.aload_n 2, 1) := by decide +kernel
theorem dX11_twice_19 : decode cX11_twice 19 = .ok (.invokevirtual 290, 3) := by decide +kernel
theorem dX11_twice_22 : decode cX11_twice 22 = .ok (.ireturn, 1) := by decide +kernel
theorem dX11_stock_0 : decode cX11_stock 0 = .ok (.aload_n 0, 1) := by decide +kernel
theorem dX11_stock_1 : decode cX11_stock 1 = .ok (.getfield 12, 3) := by decide +kernel
theorem dX11_stock_4 : decode cX11_stock 4 = .ok (.iload_n 1, 1) := by decide +kernel
theorem dX11_stock_5 : decode cX11_stock 5 = .ok (.invokevirtual 277, 3) := by decide +kernel
theorem dX11_stock_8 : decode cX11_stock 8 = .ok (.ifCond .eq 13, 3) := by decide +kernel
theorem dX11_stock_11 : decode cX11_stock 11 = .ok (.iload_n 2, 1) := by decide +kernel
theorem dX11_stock_12 : decode cX11_stock 12 = .ok (.ifCond .lt 9, 3) := by decide +kernel
theorem dX11_stock_15 : decode cX11_stock 15 = .ok (.iload_n 2, 1) := by decide +kernel
theorem dX11_stock_16 : decode cX11_stock 16 = .ok (.bipush 99, 2) := by decide +kernel
theorem dX11_stock_18 : decode cX11_stock 18 = .ok (.if_icmp .le 5, 3) := by decide +kernel
theorem dX11_stock_21 : decode cX11_stock 21 = .ok (.iconst 0, 1) := by decide +kernel
theorem dX11_stock_22 : decode cX11_stock 22 = .ok (.ireturn, 1) := by decide +kernel
theorem dX11_stock_23 : decode cX11_stock 23 = .ok (.aload_n 0, 1) := by decide +kernel
theorem dX11_stock_24 : decode cX11_stock 24 = .ok (.getfield 80, 3) := by decide +kernel
theorem dX11_stock_27 : decode cX11_stock 27 = .ok (.getfield 293, 3) := by decide +kernel
theorem dX11_stock_30 : decode cX11_stock 30 = .ok (.iload_n 1, 1) := by decide +kernel
theorem dX11_stock_31 : decode cX11_stock 31 = .ok (.iload_n 2, 1) := by decide +kernel
theorem dX11_stock_32 : decode cX11_stock 32 = .ok (.iastore, 1) := by decide +kernel
theorem dX11_stock_33 : decode cX11_stock 33 = .ok (.iconst 1, 1) := by decide +kernel
theorem dX11_stock_34 : decode cX11_stock 34 = .ok (.ireturn, 1) := by decide +kernel
theorem dX11_pace_0 : decode cX11_pace 0 = .ok (.iload_n 1, 1) := by decide +kernel
theorem dX11_pace_1 : decode cX11_pace 1 = .ok (.iconst 1, 1) := by decide +kernel
theorem dX11_pace_2 : decode cX11_pace 2 = .ok (.if_icmp .lt 19, 3) := by decide +kernel
theorem dX11_pace_5 : decode cX11_pace 5 = .ok (.iload_n 1, 1) := by decide +kernel
theorem dX11_pace_6 : decode cX11_pace 6 = .ok (.bipush 9, 2) := by decide +kernel
theorem dX11_pace_8 : decode cX11_pace 8 = .ok (.if_icmp .gt 13, 3) := by decide +kernel
theorem dX11_pace_11 : decode cX11_pace 11 = .ok (.iload_n 2, 1) := by decide +kernel
theorem dX11_pace_12 : decode cX11_pace 12 = .ok (.ifCond .lt 9, 3) := by decide +kernel
theorem dX11_pace_15 : decode cX11_pace 15 = .ok (.iload_n 2, 1) := by decide +kernel
theorem dX11_pace_16 : decode cX11_pace 16 = .ok (.bipush 9, 2) := by decide +kernel
theorem dX11_pace_18 : decode cX11_pace 18 = .ok (.if_icmp .le 5, 3) := by decide +kernel
theorem dX11_pace_21 : decode cX11_pace 21 = .ok (.iconst 0, 1) := by decide +kernel
theorem dX11_pace_22 : decode cX11_pace 22 = .ok (.ireturn, 1) := by decide +kernel
theorem dX11_pace_23 : decode cX11_pace 23 = .ok (.aload_n 0, 1) := by decide +kernel
theorem dX11_pace_24 : decode cX11_pace 24 = .ok (.getfield 80, 3) := by decide +kernel
theorem dX11_pace_27 : decode cX11_pace 27 = .ok (.iload_n 1, 1) := by decide +kernel
theorem dX11_pace_28 : decode cX11_pace 28 = .ok (.putfield 296, 3) := by decide +kernel
theorem dX11_pace_31 : decode cX11_pace 31 = .ok (.aload_n 0, 1) := by decide +kernel
theorem dX11_pace_32 : decode cX11_pace 32 = .ok (.getfield 80, 3) := by decide +kernel
theorem dX11_pace_35 : decode cX11_pace 35 = .ok (.iload_n 2, 1) := by decide +kernel
theorem dX11_pace_36 : decode cX11_pace 36 = .ok (.putfield 299, 3) := by decide +kernel
theorem dX11_pace_39 : decode cX11_pace 39 = .ok (.iconst 1, 1) := by decide +kernel
theorem dX11_pace_40 : decode cX11_pace 40 = .ok (.ireturn, 1) := by decide +kernel
theorem dX11_comes_0 : decode cX11_comes 0 = .ok (.aload_n 0, 1) := by decide +kernel
theorem dX11_comes_1 : decode cX11_comes 1 = .ok (.iload_n 2, 1) := by decide +kernel
theorem dX11_comes_2 : decode cX11_comes 2 = .ok (.invokevirtual 143, 3) := by decide +kernel
theorem dX11_comes_5 : decode cX11_comes 5 = .ok (.ifnull 25, 3) := by decide +kernel
theorem dX11_comes_8 : decode cX11_comes 8 = .ok (.iload_n 1, 1) := by decide +kernel
theorem dX11_comes_9 : decode cX11_comes 9 = .ok (.ifCond .lt 21, 3) := by decide +kernel
theorem dX11_comes_12 : decode cX11_comes 12 = .ok (.iload_n 1, 1) := by decide +kernel
theorem dX11_comes_13 : decode cX11_comes 13 = .ok (.sipush 9999, 3) := by decide +kernel
theorem dX11_comes_16 : decode cX11_comes 16 = .ok (.if_icmp .gt 14, 3) := by decide +kernel
theorem dX11_comes_19 : decode cX11_comes 19 = .ok (.iload_n 3, 1) := by decide +kernel
theorem dX11_comes_20 : decode cX11_comes 20 = .ok (.ifCond .lt 10, 3) := by decide +kernel
theorem dX11_comes_23 : decode cX11_comes 23 = .ok (.iload_n 3, 1) := by decide +kernel
theorem dX11_comes_24 : decode cX11_comes 24 = .ok (.sipush 999, 3) := by decide +kernel
theorem dX11_comes_27 : decode cX11_comes 27 = .ok (.if_icmp .le 5, 3) := by decide +kernel
theorem dX11_comes_30 : decode cX11_comes 30 = .ok (.iconst (-1), 1) := by decide +kernel
theorem dX11_comes_31 : decode cX11_comes 31 = .ok (.ireturn, 1) := by decide +kernel
theorem dX11_comes_32 : decode cX11_comes 32 = .ok (.aload_n 0, 1) := by decide +kernel
theorem dX11_comes_33 : decode cX11_comes 33 = .ok (.getfield 80, 3) := by decide +kernel
theorem dX11_comes_36 : decode cX11_comes 36 = .ok (.iload_n 1, 1) := by decide +kernel
theorem dX11_comes_37 : decode cX11_comes 37 = .ok (.iload_n 2, 1) := by decide +kernel
theorem dX11_comes_38 : decode cX11_comes 38 = .ok (.iload_n 3, 1) := by decide +kernel
theorem dX11_comes_39 : decode cX11_comes 39 = .ok (.invokevirtual 302, 3) := by decide +kernel
theorem dX11_comes_42 : decode cX11_comes 42 = .ok (.ireturn, 1) := by decide +kernel
theorem dX11_close_0 : decode cX11_close 0 = .ok (.aload_n 0, 1) := by decide +kernel
theorem dX11_close_1 : decode cX11_close 1 = .ok (.getfield 80, 3) := by decide +kernel
theorem dX11_close_4 : decode cX11_close 4 = .ok (.invokevirtual 305, 3) := by decide +kernel
theorem dX11_close_7 : decode cX11_close 7 = .ok (.ireturn, 1) := by decide +kernel
theorem dX11_run_0 : decode cX11_run 0 = .ok (.aload_n 0, 1) := by decide +kernel
theorem dX11_run_1 : decode cX11_run 1 = .ok (.getfield 80, 3) := by decide +kernel
theorem dX11_run_4 : decode cX11_run 4 = .ok (.aload_n 0, 1) := by decide +kernel
theorem dX11_run_5 : decode cX11_run 5 = .ok (.getfield 25, 3) := by decide +kernel
theorem dX11_run_8 : decode cX11_run 8 = .ok (.aload_n 0, 1) := by decide +kernel
theorem dX11_run_9 : decode cX11_run 9 = .ok (.getfield 12, 3) := by decide +kernel
theorem dX11_run_12 : decode cX11_run 12 = .ok (.lload_n 1, 1) := by decide +kernel
theorem dX11_run_13 : decode cX11_run 13 = .ok (.invokevirtual 308, 3) := by decide +kernel
theorem dX11_run_16 : decode cX11_run 16 = .ok (.ireturn, 1) := by decide +kernel
theorem dX11_guest_0 : decode cX11_guest 0 = .ok (.iload_n 1, 1) := by decide +kernel
theorem dX11_guest_1 : decode cX11_guest 1 = .ok (.ifCond .lt 14, 3) := by decide +kernel
theorem dX11_guest_4 : decode cX11_guest 4 = .ok (.iload_n 1, 1) := by decide +kernel
theorem dX11_guest_5 : decode cX11_guest 5 = .ok (.aload_n 0, 1) := by decide +kernel
theorem dX11_guest_6 : decode cX11_guest 6 = .ok (.getfield 80, 3) := by decide +kernel
theorem dX11_guest_9 : decode cX11_guest 9 = .ok (.getfield 312, 3) := by decide +kernel
theorem dX11_guest_12 : decode cX11_guest 12 = .ok (.if_icmp .lt 14, 3) := by decide +kernel
theorem dX11_guest_15 : decode cX11_guest 15 = .ok (.new 175, 3) := by decide +kernel
theorem dX11_guest_18 : decode cX11_guest 18 = .ok (.dup, 1) := by decide +kernel
theorem dX11_guest_19 : decode cX11_guest 19 = .ok (.ldc_w 315, 3) := by decide +kernel
theorem dX11_guest_22 : decode cX11_guest 22 = .ok (.invokespecial 179, 3) := by decide +kernel
theorem dX11_guest_25 : decode cX11_guest 25 = .ok (.athrow, 1) := by decide +kernel
theorem dX11_guest_26 : decode cX11_guest 26 = .ok (.iload_n 2, 1) := by decide +kernel
theorem dX11_guest_27 : decode cX11_guest 27 = .ok (.tableswitch 69 0 3 #[29, 39, 49, 59], 29) := by decide +kernel
theorem dX11_guest_56 : decode cX11_guest 56 = .ok (.aload_n 0, 1) := by decide +kernel
theorem dX11_guest_57 : decode cX11_guest 57 = .ok (.getfield 80, 3) := by decide +kernel
theorem dX11_guest_60 : decode cX11_guest 60 = .ok (.getfield 317, 3) := by decide +kernel
theorem dX11_guest_63 : decode cX11_guest 63 = .ok (.iload_n 1, 1) := by decide +kernel
theorem dX11_guest_64 : decode cX11_guest 64 = .ok (.iaload, 1) := by decide +kernel
theorem dX11_guest_65 : decode cX11_guest 65 = .ok (.ireturn, 1) := by decide +kernel
theorem dX11_guest_66 : decode cX11_guest 66 = .ok (.aload_n 0, 1) := by decide +kernel
theorem dX11_guest_67 : decode cX11_guest 67 = .ok (.getfield 80, 3) := by decide +kernel
theorem dX11_guest_70 : decode cX11_guest 70 = .ok (.getfield 320, 3) := by decide +kernel
theorem dX11_guest_73 : decode cX11_guest 73 = .ok (.iload_n 1, 1) := by decide +kernel
theorem dX11_guest_74 : decode cX11_guest 74 = .ok (.iaload, 1) := by decide +kernel
theorem dX11_guest_75 : decode cX11_guest 75 = .ok (.ireturn, 1) := by decide +kernel
theorem dX11_guest_76 : decode cX11_guest 76 = .ok (.aload_n 0, 1) := by decide +kernel
theorem dX11_guest_77 : decode cX11_guest 77 = .ok (.getfield 80, 3) := by decide +kernel
theorem dX11_guest_80 : decode cX11_guest 80 = .ok (.getfield 323, 3) := by decide +kernel
theorem dX11_guest_83 : decode cX11_guest 83 = .ok (.iload_n 1, 1) := by decide +kernel
theorem dX11_guest_84 : decode cX11_guest 84 = .ok (.iaload, 1) := by decide +kernel
theorem dX11_guest_85 : decode cX11_guest 85 = .ok (.ireturn, 1) := by decide +kernel
theorem dX11_guest_86 : decode cX11_guest 86 = .ok (.aload_n 0, 1) := by decide +kernel
theorem dX11_guest_87 : decode cX11_guest 87 = .ok (.getfield 80, 3) := by decide +kernel
theorem dX11_guest_90 : decode cX11_guest 90 = .ok (.getfield 326, 3) := by decide +kernel
theorem dX11_guest_93 : decode cX11_guest 93 = .ok (.iload_n 1, 1) := by decide +kernel
theorem dX11_guest_94 : decode cX11_guest 94 = .ok (.iaload, 1) := by decide +kernel
theorem dX11_guest_95 : decode cX11_guest 95 = .ok (.ireturn, 1) := by decide +kernel
theorem dX11_guest_96 : decode cX11_guest 96 = .ok (.new 175, 3) := by decide +kernel
theorem dX11_guest_99 : decode cX11_guest 99 = .ok (.dup, 1) := by decide +kernel
theorem dX11_guest_100 : decode cX11_guest 100 = .ok (.ldc_w 329, 3) := by decide +kernel
theorem dX11_guest_103 : decode cX11_guest 103 = .ok (.invokespecial 179, 3) := by decide +kernel
theorem dX11_guest_106 : decode cX11_guest 106 = .ok (.athrow, 1) := by decide +kernel
theorem dX11_worth_0 : decode cX11_worth 0 = .ok (.aload_n 0, 1) := by decide +kernel
theorem dX11_worth_1 : decode cX11_worth 1 = .ok (.iload_n 1, 1) := by decide +kernel
theorem dX11_worth_2 : decode cX11_worth 2 = .ok (.invokevirtual 331, 3) := by decide +kernel
theorem dX11_worth_5 : decode cX11_worth 5 = .ok (.astore 7, 2) := by decide +kernel
theorem dX11_worth_7 : decode cX11_worth 7 = .ok (.aload 7, 2) := by decide +kernel
theorem dX11_worth_9 : decode cX11_worth 9 = .ok (.ifnonnull 14, 3) := by decide +kernel
theorem dX11_worth_12 : decode cX11_worth 12 = .ok (.new 175, 3) := by decide +kernel
theorem dX11_worth_15 : decode cX11_worth 15 = .ok (.dup, 1) := by decide +kernel
theorem dX11_worth_16 : decode cX11_worth 16 = .ok (.ldc_w 335, 3) := by decide +kernel
theorem dX11_worth_19 : decode cX11_worth 19 = .ok (.invokespecial 179, 3) := by decide +kernel
theorem dX11_worth_22 : decode cX11_worth 22 = .ok (.athrow, 1) := by decide +kernel
theorem dX11_worth_23 : decode cX11_worth 23 = .ok (.aload_n 0, 1) := by decide +kernel
theorem dX11_worth_24 : decode cX11_worth 24 = .ok (.getfield 84, 3) := by decide +kernel
theorem dX11_worth_27 : decode cX11_worth 27 = .ok (.iconst 0, 1) := by decide +kernel
theorem dX11_worth_28 : decode cX11_worth 28 = .ok (.iload_n 2, 1) := by decide +kernel
theorem dX11_worth_29 : decode cX11_worth 29 = .ok (.iastore, 1) := by decide +kernel
theorem dX11_worth_30 : decode cX11_worth 30 = .ok (.aload_n 0, 1) := by decide +kernel
theorem dX11_worth_31 : decode cX11_worth 31 = .ok (.getfield 84, 3) := by decide +kernel
theorem dX11_worth_34 : decode cX11_worth 34 = .ok (.iconst 1, 1) := by decide +kernel
theorem dX11_worth_35 : decode cX11_worth 35 = .ok (.iload_n 3, 1) := by decide +kernel
theorem dX11_worth_36 : decode cX11_worth 36 = .ok (.iastore, 1) := by decide +kernel
theorem dX11_worth_37 : decode cX11_worth 37 = .ok (.aload_n 0, 1) := by decide +kernel
theorem dX11_worth_38 : decode cX11_worth 38 = .ok (.getfield 84, 3) := by decide +kernel
theorem dX11_worth_41 : decode cX11_worth 41 = .ok (.iconst 2, 1) := by decide +kernel
theorem dX11_worth_42 : decode cX11_worth 42 = .ok (.iload 4, 2) := by decide +kernel
theorem dX11_worth_44 : decode cX11_worth 44 = .ok (.iastore, 1) := by decide +kernel
theorem dX11_worth_45 : decode cX11_worth 45 = .ok (.aload_n 0, 1) := by decide +kernel
theorem dX11_worth_46 : decode cX11_worth 46 = .ok (.getfield 84, 3) := by decide +kernel
theorem dX11_worth_49 : decode cX11_worth 49 = .ok (.iconst 3, 1) := by decide +kernel
theorem dX11_worth_50 : decode cX11_worth 50 = .ok (.iload 5, 2) := by decide +kernel
theorem dX11_worth_52 : decode cX11_worth 52 = .ok (.iastore, 1) := by decide +kernel
theorem dX11_worth_53 : decode cX11_worth 53 = .ok (.aload_n 0, 1) := by decide +kernel
theorem dX11_worth_54 : decode cX11_worth 54 = .ok (.getfield 84, 3) := by decide +kernel
theorem dX11_worth_57 : decode cX11_worth 57 = .ok (.iconst 4, 1) := by decide +kernel
theorem dX11_worth_58 : decode cX11_worth 58 = .ok (.iload 6, 2) := by decide +kernel
theorem dX11_worth_60 : decode cX11_worth 60 = .ok (.iastore, 1) := by decide +kernel
theorem dX11_worth_61 : decode cX11_worth 61 = .ok (.aload 7, 2) := by decide +kernel
theorem dX11_worth_63 : decode cX11_worth 63 = .ok (.aload_n 0, 1) := by decide +kernel
theorem dX11_worth_64 : decode cX11_worth 64 = .ok (.getfield 84, 3) := by decide +kernel
theorem dX11_worth_67 : decode cX11_worth 67 = .ok (.aload_n 0, 1) := by decide +kernel
theorem dX11_worth_68 : decode cX11_worth 68 = .ok (.getfield 45, 3) := by decide +kernel
theorem dX11_worth_71 : decode cX11_worth 71 = .ok (.getfield 337, 3) := by decide +kernel
theorem dX11_worth_74 : decode cX11_worth 74 = .ok (.invokevirtual 341, 3) := by decide +kernel
theorem dX11_worth_77 : decode cX11_worth 77 = .ok (.ireturn, 1) := by decide +kernel
theorem dX11_aged_0 : decode cX11_aged 0 = .ok (.aload_n 0, 1) := by decide +kernel
theorem dX11_aged_1 : decode cX11_aged 1 = .ok (.iload_n 1, 1) := by decide +kernel
theorem dX11_aged_2 : decode cX11_aged 2 = .ok (.invokevirtual 143, 3) := by decide +kernel
theorem dX11_aged_5 : decode cX11_aged 5 = .ok (.astore 5, 2) := by decide +kernel
theorem dX11_aged_7 : decode cX11_aged 7 = .ok (.aload_n 0, 1) := by decide +kernel
theorem dX11_aged_8 : decode cX11_aged 8 = .ok (.iload_n 2, 1) := by decide +kernel
theorem dX11_aged_9 : decode cX11_aged 9 = .ok (.invokevirtual 331, 3) := by decide +kernel
theorem dX11_aged_12 : decode cX11_aged 12 = .ok (.astore 6, 2) := by decide +kernel
theorem dX11_aged_14 : decode cX11_aged 14 = .ok (.aload 5, 2) := by decide +kernel
theorem dX11_aged_16 : decode cX11_aged 16 = .ok (.ifnull 28, 3) := by decide +kernel
theorem dX11_aged_19 : decode cX11_aged 19 = .ok (.aload 6, 2) := by decide +kernel
theorem dX11_aged_21 : decode cX11_aged 21 = .ok (.ifnull 23, 3) := by decide +kernel
theorem dX11_aged_24 : decode cX11_aged 24 = .ok (.aload 5, 2) := by decide +kernel
theorem dX11_aged_26 : decode cX11_aged 26 = .ok (.iload 4, 2) := by decide +kernel
theorem dX11_aged_28 : decode cX11_aged 28 = .ok (.invokevirtual 171, 3) := by decide +kernel
theorem dX11_aged_31 : decode cX11_aged 31 = .ok (.ifCond .eq 13, 3) := by decide +kernel
theorem dX11_aged_34 : decode cX11_aged 34 = .ok (.iload_n 3, 1) := by decide +kernel
theorem dX11_aged_35 : decode cX11_aged 35 = .ok (.ifCond .lt 9, 3) := by decide +kernel
theorem dX11_aged_38 : decode cX11_aged 38 = .ok (.iload_n 3, 1) := by decide +kernel
theorem dX11_aged_39 : decode cX11_aged 39 = .ok (.bipush 60, 2) := by decide +kernel
theorem dX11_aged_41 : decode cX11_aged 41 = .ok (.if_icmp .le 5, 3) := by decide +kernel
theorem dX11_aged_44 : decode cX11_aged 44 = .ok (.iconst (-1), 1) := by decide +kernel
theorem dX11_aged_45 : decode cX11_aged 45 = .ok (.ireturn, 1) := by decide +kernel
theorem dX11_aged_46 : decode cX11_aged 46 = .ok (.aload_n 0, 1) := by decide +kernel
theorem dX11_aged_47 : decode cX11_aged 47 = .ok (.getfield 73, 3) := by decide +kernel
theorem dX11_aged_50 : decode cX11_aged 50 = .ok (.aload 5, 2) := by decide +kernel
theorem dX11_aged_52 : decode cX11_aged 52 = .ok (.aload 6, 2) := by decide +kernel
theorem dX11_aged_54 : decode cX11_aged 54 = .ok (.invokevirtual 345, 3) := by decide +kernel
theorem dX11_aged_57 : decode cX11_aged 57 = .ok (.aload_n 0, 1) := by decide +kernel
theorem dX11_aged_58 : decode cX11_aged 58 = .ok (.getfield 73, 3) := by decide +kernel
theorem dX11_aged_61 : decode cX11_aged 61 = .ok (.iload_n 3, 1) := by decide +kernel
theorem dX11_aged_62 : decode cX11_aged 62 = .ok (.aload 5, 2) := by decide +kernel
theorem dX11_aged_64 : decode cX11_aged 64 = .ok (.aload 6, 2) := by decide +kernel
theorem dX11_aged_66 : decode cX11_aged 66 = .ok (.aload_n 0, 1) := by decide +kernel
theorem dX11_aged_67 : decode cX11_aged 67 = .ok (.getfield 12, 3) := by decide +kernel
theorem dX11_aged_70 : decode cX11_aged 70 = .ok (.aload_n 0, 1) := by decide +kernel
theorem dX11_aged_71 : decode cX11_aged 71 = .ok (.getfield 52, 3) := by decide +kernel
theorem dX11_aged_74 : decode cX11_aged 74 = .ok (.invokevirtual 349, 3) := by decide +kernel
theorem dX11_aged_77 : decode cX11_aged 77 = .ok (.aload_n 0, 1) := by decide +kernel
theorem dX11_aged_78 : decode cX11_aged 78 = .ok (.getfield 73, 3) := by decide +kernel
theorem dX11_aged_81 : decode cX11_aged 81 = .ok (.iload_n 3, 1) := by decide +kernel
theorem dX11_aged_82 : decode cX11_aged 82 = .ok (.iload 4, 2) := by decide +kernel
theorem dX11_aged_84 : decode cX11_aged 84 = .ok (.invokevirtual 353, 3) := by decide +kernel
theorem dX11_aged_87 : decode cX11_aged 87 = .ok (.ireturn, 1) := by decide +kernel
theorem dX11_falls_0 : decode cX11_falls 0 = .ok (.aload_n 0, 1) := by decide +kernel
theorem dX11_falls_1 : decode cX11_falls 1 = .ok (.iload_n 1, 1) := by decide +kernel
theorem dX11_falls_2 : decode cX11_falls 2 = .ok (.invokevirtual 143, 3) := by decide +kernel
theorem dX11_falls_5 : decode cX11_falls 5 = .ok (.astore 4, 2) := by decide +kernel
theorem dX11_falls_7 : decode cX11_falls 7 = .ok (.aload_n 0, 1) := by decide +kernel
theorem dX11_falls_8 : decode cX11_falls 8 = .ok (.iload_n 2, 1) := by decide +kernel
theorem dX11_falls_9 : decode cX11_falls 9 = .ok (.invokevirtual 331, 3) := by decide +kernel
theorem dX11_falls_12 : decode cX11_falls 12 = .ok (.astore 5, 2) := by decide +kernel
theorem dX11_falls_14 : decode cX11_falls 14 = .ok (.aload 4, 2) := by decide +kernel
theorem dX11_falls_16 : decode cX11_falls 16 = .ok (.ifnull 25, 3) := by decide +kernel
theorem dX11_falls_19 : decode cX11_falls 19 = .ok (.aload 5, 2) := by decide +kernel
theorem dX11_falls_21 : decode cX11_falls 21 = .ok (.ifnull 20, 3) := by decide +kernel
theorem dX11_falls_24 : decode cX11_falls 24 = .ok (.aload 4, 2) := by decide +kernel
theorem dX11_falls_26 : decode cX11_falls 26 = .ok (.getfield 150, 3) := by decide +kernel
theorem dX11_falls_29 : decode cX11_falls 29 = .ok (.ifCond .eq 12, 3) := by decide +kernel
theorem dX11_falls_32 : decode cX11_falls 32 = .ok (.iload_n 3, 1) := by decide +kernel
theorem dX11_falls_33 : decode cX11_falls 33 = .ok (.ifCond .lt 8, 3) := by decide +kernel
theorem dX11_falls_36 : decode cX11_falls 36 = .ok (.iload_n 3, 1) := by decide +kernel
theorem dX11_falls_37 : decode cX11_falls 37 = .ok (.iconst 2, 1) := by decide +kernel
theorem dX11_falls_38 : decode cX11_falls 38 = .ok (.if_icmp .le 5, 3) := by decide +kernel
theorem dX11_falls_41 : decode cX11_falls 41 = .ok (.iconst (-1), 1) := by decide +kernel
theorem dX11_falls_42 : decode cX11_falls 42 = .ok (.ireturn, 1) := by decide +kernel
theorem dX11_falls_43 : decode cX11_falls 43 = .ok (.aload_n 0, 1) := by decide +kernel
theorem dX11_falls_44 : decode cX11_falls 44 = .ok (.getfield 73, 3) := by decide +kernel
theorem dX11_falls_47 : decode cX11_falls 47 = .ok (.aload 4, 2) := by decide +kernel
theorem dX11_falls_49 : decode cX11_falls 49 = .ok (.aload 5, 2) := by decide +kernel
theorem dX11_falls_51 : decode cX11_falls 51 = .ok (.invokevirtual 345, 3) := by decide +kernel
theorem dX11_falls_54 : decode cX11_falls 54 = .ok (.iconst 1, 1) := by decide +kernel
theorem dX11_falls_55 : decode cX11_falls 55 = .ok (.istore 6, 2) := by decide +kernel
theorem dX11_falls_57 : decode cX11_falls 57 = .ok (.iload 6, 2) := by decide +kernel
theorem dX11_falls_59 : decode cX11_falls 59 = .ok (.bipush 60, 2) := by decide +kernel
theorem dX11_falls_61 : decode cX11_falls 61 = .ok (.if_icmp .gt 96, 3) := by decide +kernel
theorem dX11_falls_64 : decode cX11_falls 64 = .ok (.aload_n 0, 1) := by decide +kernel
theorem dX11_falls_65 : decode cX11_falls 65 = .ok (.getfield 73, 3) := by decide +kernel
theorem dX11_falls_68 : decode cX11_falls 68 = .ok (.iload 6, 2) := by decide +kernel
theorem dX11_falls_70 : decode cX11_falls 70 = .ok (.aload 4, 2) := by decide +kernel
theorem dX11_falls_72 : decode cX11_falls 72 = .ok (.aload 5, 2) := by decide +kernel
theorem dX11_falls_74 : decode cX11_falls 74 = .ok (.aload_n 0, 1) := by decide +kernel
theorem dX11_falls_75 : decode cX11_falls 75 = .ok (.getfield 12, 3) := by decide +kernel
theorem dX11_falls_78 : decode cX11_falls 78 = .ok (.aload_n 0, 1) := by decide +kernel
theorem dX11_falls_79 : decode cX11_falls 79 = .ok (.getfield 52, 3) := by decide +kernel
theorem dX11_falls_82 : decode cX11_falls 82 = .ok (.invokevirtual 349, 3) := by decide +kernel
theorem dX11_falls_85 : decode cX11_falls 85 = .ok (.iload 6, 2) := by decide +kernel
theorem dX11_falls_87 : decode cX11_falls 87 = .ok (.iconst 1, 1) := by decide +kernel
theorem dX11_falls_88 : decode cX11_falls 88 = .ok (.if_icmp .le 32, 3) := by decide +kernel
theorem dX11_falls_91 : decode cX11_falls 91 = .ok (.aload_n 0, 1) := by decide +kernel
theorem dX11_falls_92 : decode cX11_falls 92 = .ok (.getfield 73, 3) := by decide +kernel
theorem dX11_falls_95 : decode cX11_falls 95 = .ok (.getfield 356, 3) := by decide +kernel
theorem dX11_falls_98 : decode cX11_falls 98 = .ok (.iload 6, 2) := by decide +kernel
theorem dX11_falls_100 : decode cX11_falls 100 = .ok (.iaload, 1) := by decide +kernel
theorem dX11_falls_101 : decode cX11_falls 101 = .ok (.aload_n 0, 1) := by decide +kernel
theorem dX11_falls_102 : decode cX11_falls 102 = .ok (.getfield 73, 3) := by decide +kernel
theorem dX11_falls_105 : decode cX11_falls 105 = .ok (.getfield 356, 3) := by decide +kernel
theorem dX11_falls_108 : decode cX11_falls 108 = .ok (.iload 6, 2) := by decide +kernel
theorem dX11_falls_110 : decode cX11_falls 110 = .ok (.iconst 1, 1) := by decide +kernel
theorem dX11_falls_111 : decode cX11_falls 111 = .ok (.isub, 1) := by decide +kernel
theorem dX11_falls_112 : decode cX11_falls 112 = .ok (.iaload, 1) := by decide +kernel
theorem dX11_falls_113 : decode cX11_falls 113 = .ok (.if_icmp .ne 7, 3) := by decide +kernel
theorem dX11_falls_116 : decode cX11_falls 116 = .ok (.iconst 1, 1) := by decide +kernel
theorem dX11_falls_117 : decode cX11_falls 117 = .ok (.goto 4, 3) := by decide +kernel
theorem dX11_falls_120 : decode cX11_falls 120 = .ok (.iconst 0, 1) := by decide +kernel
theorem dX11_falls_121 : decode cX11_falls 121 = .ok (.istore 7, 2) := by decide +kernel
theorem dX11_falls_123 : decode cX11_falls 123 = .ok (.iload 7, 2) := by decide +kernel
theorem dX11_falls_125 : decode cX11_falls 125 = .ok (.ifCond .ne 26, 3) := by decide +kernel
theorem dX11_falls_128 : decode cX11_falls 128 = .ok (.aload_n 0, 1) := by decide +kernel
theorem dX11_falls_129 : decode cX11_falls 129 = .ok (.aload 4, 2) := by decide +kernel
theorem dX11_falls_131 : decode cX11_falls 131 = .ok (.aload_n 0, 1) := by decide +kernel
theorem dX11_falls_132 : decode cX11_falls 132 = .ok (.getfield 73, 3) := by decide +kernel
theorem dX11_falls_135 : decode cX11_falls 135 = .ok (.getfield 356, 3) := by decide +kernel
theorem dX11_falls_138 : decode cX11_falls 138 = .ok (.iload 6, 2) := by decide +kernel
theorem dX11_falls_140 : decode cX11_falls 140 = .ok (.iaload, 1) := by decide +kernel
theorem dX11_falls_141 : decode cX11_falls 141 = .ok (.iload_n 3, 1) := by decide +kernel
theorem dX11_falls_142 : decode cX11_falls 142 = .ok (.invokevirtual 359, 3) := by decide +kernel
theorem dX11_falls_145 : decode cX11_falls 145 = .ok (.ifCond .eq 6, 3) := by decide +kernel
theorem dX11_falls_148 : decode cX11_falls 148 = .ok (.iload 6, 2) := by decide +kernel
theorem dX11_falls_150 : decode cX11_falls 150 = .ok (.ireturn, 1) := by decide +kernel
theorem dX11_falls_151 : decode cX11_falls 151 = .ok (.iinc 6 1, 3) := by decide +kernel
theorem dX11_falls_154 : decode cX11_falls 154 = .ok (.goto (-97), 3) := by decide +kernel
theorem dX11_falls_157 : decode cX11_falls 157 = .ok (.iconst (-1), 1) := by decide +kernel
theorem dX11_falls_158 : decode cX11_falls 158 = .ok (.ireturn, 1) := by decide +kernel
theorem dX11_count_0 : decode cX11_count 0 = .ok (.iload_n 1, 1) := by decide +kernel
theorem dX11_count_1 : decode cX11_count 1 = .ok (.tableswitch 69 0 4 #[35, 43, 48, 56, 64], 35) := by decide +kernel
theorem dX11_count_36 : decode cX11_count 36 = .ok (.aload_n 0, 1) := by decide +kernel
theorem dX11_count_37 : decode cX11_count 37 = .ok (.getfield 12, 3) := by decide +kernel
theorem dX11_count_40 : decode cX11_count 40 = .ok (.getfield 109, 3) := by decide +kernel
theorem dX11_count_43 : decode cX11_count 43 = .ok (.ireturn, 1) := by decide +kernel
theorem dX11_count_44 : decode cX11_count 44 = .ok (.aload_n 0, 1) := by decide +kernel
theorem dX11_count_45 : decode cX11_count 45 = .ok (.getfield 131, 3) := by decide +kernel
theorem dX11_count_48 : decode cX11_count 48 = .ok (.ireturn, 1) := by decide +kernel
theorem dX11_count_49 : decode cX11_count 49 = .ok (.aload_n 0, 1) := by decide +kernel
theorem dX11_count_50 : decode cX11_count 50 = .ok (.getfield 80, 3) := by decide +kernel
theorem dX11_count_53 : decode cX11_count 53 = .ok (.getfield 363, 3) := by decide +kernel
theorem dX11_count_56 : decode cX11_count 56 = .ok (.ireturn, 1) := by decide +kernel
theorem dX11_count_57 : decode cX11_count 57 = .ok (.aload_n 0, 1) := by decide +kernel
theorem dX11_count_58 : decode cX11_count 58 = .ok (.getfield 19, 3) := by decide +kernel
theorem dX11_count_61 : decode cX11_count 61 = .ok (.getfield 101, 3) := by decide +kernel
theorem dX11_count_64 : decode cX11_count 64 = .ok (.ireturn, 1) := by decide +kernel
theorem dX11_count_65 : decode cX11_count 65 = .ok (.aload_n 0, 1) := by decide +kernel
theorem dX11_count_66 : decode cX11_count 66 = .ok (.getfield 134, 3) := by decide +kernel
theorem dX11_count_69 : decode cX11_count 69 = .ok (.ireturn, 1) := by decide +kernel
theorem dX11_count_70 : decode cX11_count 70 = .ok (.iconst (-1), 1) := by decide +kernel
theorem dX11_count_71 : decode cX11_count 71 = .ok (.ireturn, 1) := by decide +kernel
theorem dX11_figureAt_0 : decode cX11_figureAt 0 = .ok (.iload_n 1, 1) := by decide +kernel
theorem dX11_figureAt_1 : decode cX11_figureAt 1 = .ok (.ifCond .lt 11, 3) := by decide +kernel
theorem dX11_figureAt_4 : decode cX11_figureAt 4 = .ok (.iload_n 1, 1) := by decide +kernel
theorem dX11_figureAt_5 : decode cX11_figureAt 5 = .ok (.aload_n 0, 1) := by decide +kernel
theorem dX11_figureAt_6 : decode cX11_figureAt 6 = .ok (.getfield 131, 3) := by decide +kernel
theorem dX11_figureAt_9 : decode cX11_figureAt 9 = .ok (.if_icmp .lt 7, 3) := by decide +kernel
theorem dX11_figureAt_12 : decode cX11_figureAt 12 = .ok (.aconst_null, 1) := by decide +kernel
theorem dX11_figureAt_13 : decode cX11_figureAt 13 = .ok (.goto 9, 3) := by decide +kernel
theorem dX11_figureAt_16 : decode cX11_figureAt 16 = .ok (.aload_n 0, 1) := by decide +kernel
theorem dX11_figureAt_17 : decode cX11_figureAt 17 = .ok (.getfield 25, 3) := by decide +kernel
theorem dX11_figureAt_20 : decode cX11_figureAt 20 = .ok (.iload_n 1, 1) := by decide +kernel
theorem dX11_figureAt_21 : decode cX11_figureAt 21 = .ok (.aaload, 1) := by decide +kernel
theorem dX11_figureAt_22 : decode cX11_figureAt 22 = .ok (.areturn, 1) := by decide +kernel
theorem dX11_freeFigure_0 : decode cX11_freeFigure 0 = .ok (.aload_n 0, 1) := by decide +kernel
theorem dX11_freeFigure_1 : decode cX11_freeFigure 1 = .ok (.getfield 131, 3) := by decide +kernel
theorem dX11_freeFigure_4 : decode cX11_freeFigure 4 = .ok (.bipush 12, 2) := by decide +kernel
theorem dX11_freeFigure_6 : decode cX11_freeFigure 6 = .ok (.if_icmp .ge 15, 3) := by decide +kernel
theorem dX11_freeFigure_9 : decode cX11_freeFigure 9 = .ok (.aload_n 0, 1) := by decide +kernel
theorem dX11_freeFigure_10 : decode cX11_freeFigure 10 = .ok (.getfield 25, 3) := by decide +kernel
theorem dX11_freeFigure_13 : decode cX11_freeFigure 13 = .ok (.aload_n 0, 1) := by decide +kernel
theorem dX11_freeFigure_14 : decode cX11_freeFigure 14 = .ok (.getfield 131, 3) := by decide +kernel
theorem dX11_freeFigure_17 : decode cX11_freeFigure 17 = .ok (.aaload, 1) := by decide +kernel
theorem dX11_freeFigure_18 : decode cX11_freeFigure 18 = .ok (.goto 4, 3) := by decide +kernel
theorem dX11_freeFigure_21 : decode cX11_freeFigure 21 = .ok (.aconst_null, 1) := by decide +kernel
theorem dX11_freeFigure_22 : decode cX11_freeFigure 22 = .ok (.areturn, 1) := by decide +kernel
theorem dX11_ruleAt_0 : decode cX11_ruleAt 0 = .ok (.iload_n 1, 1) := by decide +kernel
theorem dX11_ruleAt_1 : decode cX11_ruleAt 1 = .ok (.ifCond .lt 11, 3) := by decide +kernel
theorem dX11_ruleAt_4 : decode cX11_ruleAt 4 = .ok (.iload_n 1, 1) := by decide +kernel
theorem dX11_ruleAt_5 : decode cX11_ruleAt 5 = .ok (.aload_n 0, 1) := by decide +kernel
theorem dX11_ruleAt_6 : decode cX11_ruleAt 6 = .ok (.getfield 134, 3) := by decide +kernel
theorem dX11_ruleAt_9 : decode cX11_ruleAt 9 = .ok (.if_icmp .lt 7, 3) := by decide +kernel
theorem dX11_ruleAt_12 : decode cX11_ruleAt 12 = .ok (.aconst_null, 1) := by decide +kernel
theorem dX11_ruleAt_13 : decode cX11_ruleAt 13 = .ok (.goto 9, 3) := by decide +kernel
theorem dX11_ruleAt_16 : decode cX11_ruleAt 16 = .ok (.aload_n 0, 1) := by decide +kernel
theorem dX11_ruleAt_17 : decode cX11_ruleAt 17 = .ok (.getfield 31, 3) := by decide +kernel
theorem dX11_ruleAt_20 : decode cX11_ruleAt 20 = .ok (.iload_n 1, 1) := by decide +kernel
theorem dX11_ruleAt_21 : decode cX11_ruleAt 21 = .ok (.aaload, 1) := by decide +kernel
theorem dX11_ruleAt_22 : decode cX11_ruleAt 22 = .ok (.areturn, 1) := by decide +kernel
theorem dX11_hasFallen_0 : decode cX11_hasFallen 0 = .ok (.iload_n 3, 1) := by decide +kernel
theorem dX11_hasFallen_1 : decode cX11_hasFallen 1 = .ok (.ifCond .ne 13, 3) := by decide +kernel
theorem dX11_hasFallen_4 : decode cX11_hasFallen 4 = .ok (.iload_n 2, 1) := by decide +kernel
theorem dX11_hasFallen_5 : decode cX11_hasFallen 5 = .ok (.ifCond .eq 7, 3) := by decide +kernel
theorem dX11_hasFallen_8 : decode cX11_hasFallen 8 = .ok (.iconst 1, 1) := by decide +kernel
theorem dX11_hasFallen_9 : decode cX11_hasFallen 9 = .ok (.goto 4, 3) := by decide +kernel
theorem dX11_hasFallen_12 : decode cX11_hasFallen 12 = .ok (.iconst 0, 1) := by decide +kernel
theorem dX11_hasFallen_13 : decode cX11_hasFallen 13 = .ok (.ireturn, 1) := by decide +kernel
theorem dX11_hasFallen_14 : decode cX11_hasFallen 14 = .ok (.iload_n 3, 1) := by decide +kernel
theorem dX11_hasFallen_15 : decode cX11_hasFallen 15 = .ok (.iconst 1, 1) := by decide +kernel
theorem dX11_hasFallen_16 : decode cX11_hasFallen 16 = .ok (.if_icmp .ne 24, 3) := by decide +kernel
theorem dX11_hasFallen_19 : decode cX11_hasFallen 19 = .ok (.aload_n 0, 1) := by decide +kernel
theorem dX11_hasFallen_20 : decode cX11_hasFallen 20 = .ok (.getfield 52, 3) := by decide +kernel
theorem dX11_hasFallen_23 : decode cX11_hasFallen 23 = .ok (.aload_n 1, 1) := by decide +kernel
theorem dX11_hasFallen_24 : decode cX11_hasFallen 24 = .ok (.iload_n 2, 1) := by decide +kernel
theorem dX11_hasFallen_25 : decode cX11_hasFallen 25 = .ok (.invokevirtual 242, 3) := by decide +kernel
theorem dX11_hasFallen_28 : decode cX11_hasFallen 28 = .ok (.iconst 2, 1) := by decide +kernel
theorem dX11_hasFallen_29 : decode cX11_hasFallen 29 = .ok (.if_icmp .lt 7, 3) := by decide +kernel
theorem dX11_hasFallen_32 : decode cX11_hasFallen 32 = .ok (.iconst 1, 1) := by decide +kernel
theorem dX11_hasFallen_33 : decode cX11_hasFallen 33 = .ok (.goto 20, 3) := by decide +kernel
theorem dX11_hasFallen_36 : decode cX11_hasFallen 36 = .ok (.iconst 0, 1) := by decide +kernel
theorem dX11_hasFallen_37 : decode cX11_hasFallen 37 = .ok (.goto 16, 3) := by decide +kernel
theorem dX11_hasFallen_40 : decode cX11_hasFallen 40 = .ok (.iload_n 2, 1) := by decide +kernel
theorem dX11_hasFallen_41 : decode cX11_hasFallen 41 = .ok (.aload_n 1, 1) := by decide +kernel
theorem dX11_hasFallen_42 : decode cX11_hasFallen 42 = .ok (.invokevirtual 366, 3) := by decide +kernel
theorem dX11_hasFallen_45 : decode cX11_hasFallen 45 = .ok (.if_icmp .ne 7, 3) := by decide +kernel
theorem dX11_hasFallen_48 : decode cX11_hasFallen 48 = .ok (.iconst 1, 1) := by decide +kernel
theorem dX11_hasFallen_49 : decode cX11_hasFallen 49 = .ok (.goto 4, 3) := by decide +kernel
theorem dX11_hasFallen_52 : decode cX11_hasFallen 52 = .ok (.iconst 0, 1) := by decide +kernel
theorem dX11_hasFallen_53 : decode cX11_hasFallen 53 = .ok (.ireturn, 1) := by decide +kernel
theorem dX11_filledBytes_0 : decode cX11_filledBytes 0 = .ok (.iconst 0, 1) := by decide +kernel
theorem dX11_filledBytes_1 : decode cX11_filledBytes 1 = .ok (.istore_n 1, 1) := by decide +kernel
theorem dX11_filledBytes_2 : decode cX11_filledBytes 2 = .ok (.bipush 24, 2) := by decide +kernel
theorem dX11_filledBytes_4 : decode cX11_filledBytes 4 = .ok (.istore_n 2, 1) := by decide +kernel
theorem dX11_filledBytes_5 : decode cX11_filledBytes 5 = .ok (.iload_n 2, 1) := by decide +kernel
theorem dX11_filledBytes_6 : decode cX11_filledBytes 6 = .ok (.ifCond .lt 22, 3) := by decide +kernel
theorem dX11_filledBytes_9 : decode cX11_filledBytes 9 = .ok (.iload_n 0, 1) := by decide +kernel
theorem dX11_filledBytes_10 : decode cX11_filledBytes 10 = .ok (.iload_n 2, 1) := by decide +kernel
theorem dX11_filledBytes_11 : decode cX11_filledBytes 11 = .ok (.iushr, 1) := by decide +kernel
theorem dX11_filledBytes_12 : decode cX11_filledBytes 12 = .ok (.sipush 255, 3) := by decide +kernel
theorem dX11_filledBytes_15 : decode cX11_filledBytes 15 = .ok (.iand, 1) := by decide +kernel
theorem dX11_filledBytes_16 : decode cX11_filledBytes 16 = .ok (.ifCond .eq 6, 3) := by decide +kernel
theorem dX11_filledBytes_19 : decode cX11_filledBytes 19 = .ok (.iinc 1 1, 3) := by decide +kernel
theorem dX11_filledBytes_22 : decode cX11_filledBytes 22 = .ok (.iinc 2 (-8), 3) := by decide +kernel
theorem dX11_filledBytes_25 : decode cX11_filledBytes 25 = .ok (.goto (-20), 3) := by decide +kernel
theorem dX11_filledBytes_28 : decode cX11_filledBytes 28 = .ok (.iload_n 1, 1) := by decide +kernel
theorem dX11_filledBytes_29 : decode cX11_filledBytes 29 = .ok (.ireturn, 1) := by decide +kernel
theorem dX11_isDigit_0 : decode cX11_isDigit 0 = .ok (.iload_n 0, 1) := by decide +kernel
theorem dX11_isDigit_1 : decode cX11_isDigit 1 = .ok (.bipush 48, 2) := by decide +kernel
theorem dX11_isDigit_3 : decode cX11_isDigit 3 = .ok (.if_icmp .lt 13, 3) := by decide +kernel
theorem dX11_isDigit_6 : decode cX11_isDigit 6 = .ok (.iload_n 0, 1) := by decide +kernel
theorem dX11_isDigit_7 : decode cX11_isDigit 7 = .ok (.bipush 57, 2) := by decide +kernel
theorem dX11_isDigit_9 : decode cX11_isDigit 9 = .ok (.if_icmp .gt 7, 3) := by decide +kernel
theorem dX11_isDigit_12 : decode cX11_isDigit 12 = .ok (.iconst 1, 1) := by decide +kernel
theorem dX11_isDigit_13 : decode cX11_isDigit 13 = .ok (.goto 4, 3) := by decide +kernel
theorem dX11_isDigit_16 : decode cX11_isDigit 16 = .ok (.iconst 0, 1) := by decide +kernel
theorem dX11_isDigit_17 : decode cX11_isDigit 17 = .ok (.ireturn, 1) := by decide +kernel
theorem dX12_in_0 : decode cX12_in 0 = .ok (.iload_n 0, 1) := by decide +kernel
theorem dX12_in_1 : decode cX12_in 1 = .ok (.iload_n 1, 1) := by decide +kernel
theorem dX12_in_2 : decode cX12_in 2 = .ok (.if_icmp .lt 12, 3) := by decide +kernel
theorem dX12_in_5 : decode cX12_in 5 = .ok (.iload_n 0, 1) := by decide +kernel
theorem dX12_in_6 : decode cX12_in 6 = .ok (.iload_n 2, 1) := by decide +kernel
theorem dX12_in_7 : decode cX12_in 7 = .ok (.if_icmp .gt 7, 3) := by decide +kernel
theorem dX12_in_10 : decode cX12_in 10 = .ok (.iconst 1, 1) := by decide +kernel
theorem dX12_in_11 : decode cX12_in 11 = .ok (.goto 4, 3) := by decide +kernel
theorem dX12_in_14 : decode cX12_in 14 = .ok (.iconst 0, 1) := by decide +kernel
theorem dX12_in_15 : decode cX12_in 15 = .ok (.ireturn, 1) := by decide +kernel
theorem dX12_init_0 : decode cX12_init 0 = .ok (.aload_n 0, 1) := by decide +kernel
theorem dX12_init_1 : decode cX12_init 1 = .ok (.invokespecial 1, 3) := by decide +kernel
theorem dX12_init_4 : decode cX12_init 4 = .ok (.aload_n 0, 1) := by decide +kernel
theorem dX12_init_5 : decode cX12_init 5 = .ok (.bipush 6, 2) := by decide +kernel
theorem dX12_init_7 : decode cX12_init 7 = .ok (.newarray .int, 2) := by decide +kernel
theorem dX12_init_9 : decode cX12_init 9 = .ok (.putfield 9, 3) := by decide +kernel
theorem dX12_init_12 : decode cX12_init 12 = .ok (.aload_n 0, 1) := by decide +kernel
theorem dX12_init_13 : decode cX12_init 13 = .ok (.bipush 6, 2) := by decide +kernel
theorem dX12_init_15 : decode cX12_init 15 = .ok (.newarray .int, 2) := by decide +kernel
theorem dX12_init_17 : decode cX12_init 17 = .ok (.putfield 13, 3) := by decide +kernel
theorem dX12_init_20 : decode cX12_init 20 = .ok (.aload_n 0, 1) := by decide +kernel
theorem dX12_init_21 : decode cX12_init 21 = .ok (.bipush 6, 2) := by decide +kernel
theorem dX12_init_23 : decode cX12_init 23 = .ok (.newarray .int, 2) := by decide +kernel
theorem dX12_init_25 : decode cX12_init 25 = .ok (.putfield 16, 3) := by decide +kernel
theorem dX12_init_28 : decode cX12_init 28 = .ok (.aload_n 0, 1) := by decide +kernel
theorem dX12_init_29 : decode cX12_init 29 = .ok (.bipush 6, 2) := by decide +kernel
theorem dX12_init_31 : decode cX12_init 31 = .ok (.newarray .int, 2) := by decide +kernel
theorem dX12_init_33 : decode cX12_init 33 = .ok (.putfield 19, 3) := by decide +kernel
theorem dX12_init_36 : decode cX12_init 36 = .ok (.aload_n 0, 1) := by decide +kernel
theorem dX12_init_37 : decode cX12_init 37 = .ok (.sipush 200, 3) := by decide +kernel
theorem dX12_init_40 : decode cX12_init 40 = .ok (.newarray .int, 2) := by decide +kernel
theorem dX12_init_42 : decode cX12_init 42 = .ok (.putfield 22, 3) := by decide +kernel
theorem dX12_init_45 : decode cX12_init 45 = .ok (.aload_n 0, 1) := by decide +kernel
theorem dX12_init_46 : decode cX12_init 46 = .ok (.bipush 13, 2) := by decide +kernel
theorem dX12_init_48 : decode cX12_init 48 = .ok (.newarray .int, 2) := by decide +kernel
theorem dX12_init_50 : decode cX12_init 50 = .ok (.putfield 25, 3) := by decide +kernel
theorem dX12_init_53 : decode cX12_init 53 = .ok (.aload_n 0, 1) := by decide +kernel
theorem dX12_init_54 : decode cX12_init 54 = .ok (.bipush 78, 2) := by decide +kernel
theorem dX12_init_56 : decode cX12_init 56 = .ok (.newarray .int, 2) := by decide +kernel
theorem dX12_init_58 : decode cX12_init 58 = .ok (.putfield 28, 3) := by decide +kernel
theorem dX12_init_61 : decode cX12_init 61 = .ok (.aload_n 0, 1) := by decide +kernel
theorem dX12_init_62 : decode cX12_init 62 = .ok (.bipush 13, 2) := by decide +kernel
theorem dX12_init_64 : decode cX12_init 64 = .ok (.newarray .int, 2) := by decide +kernel
theorem dX12_init_66 : decode cX12_init 66 = .ok (.putfield 31, 3) := by decide +kernel
theorem dX12_init_69 : decode cX12_init 69 = .ok (.aload_n 0, 1) := by decide +kernel
theorem dX12_init_70 : decode cX12_init 70 = .ok (.bipush 13, 2) := by decide +kernel
theorem dX12_init_72 : decode cX12_init 72 = .ok (.newarray .int, 2) := by decide +kernel
theorem dX12_init_74 : decode cX12_init 74 = .ok (.putfield 34, 3) := by decide +kernel
theorem dX12_init_77 : decode cX12_init 77 = .ok (.aload_n 0, 1) := by decide +kernel
theorem dX12_init_78 : decode cX12_init 78 = .ok (.sipush 312, 3) := by decide +kernel
theorem dX12_init_81 : decode cX12_init 81 = .ok (.newarray .int, 2) := by decide +kernel
theorem dX12_init_83 : decode cX12_init 83 = .ok (.putfield 37, 3) := by decide +kernel
theorem dX12_init_86 : decode cX12_init 86 = .ok (.aload_n 0, 1) := by decide +kernel
theorem dX12_init_87 : decode cX12_init 87 = .ok (.sipush 312, 3) := by decide +kernel
theorem dX12_init_90 : decode cX12_init 90 = .ok (.newarray .int, 2) := by decide +kernel
theorem dX12_init_92 : decode cX12_init 92 = .ok (.putfield 40, 3) := by decide +kernel
theorem dX12_init_95 : decode cX12_init 95 = .ok (.aload_n 0, 1) := by decide +kernel
theorem dX12_init_96 : decode cX12_init 96 = .ok (.sipush 312, 3) := by decide +kernel
theorem dX12_init_99 : decode cX12_init 99 = .ok (.newarray .int, 2) := by decide +kernel
theorem dX12_init_101 : decode cX12_init 101 = .ok (.putfield 43, 3) := by decide +kernel
theorem dX12_init_104 : decode cX12_init 104 = .ok (.aload_n 0, 1) := by decide +kernel
theorem dX12_init_105 : decode cX12_init 105 = .ok (.sipush 312, 3) := by decide +kernel
theorem dX12_init_108 : decode cX12_init 108 = .ok (.newarray .int, 2) := by decide +kernel
theorem dX12_init_110 : decode cX12_init 110 = .ok (.putfield 46, 3) := by decide +kernel
theorem dX12_init_113 : decode cX12_init 113 = .ok (.aload_n 0, 1) := by decide +kernel
theorem dX12_init_114 : decode cX12_init 114 = .ok (.bipush 13, 2) := by decide +kernel
theorem dX12_init_116 : decode cX12_init 116 = .ok (.newarray .int, 2) := by decide +kernel
theorem dX12_init_118 : decode cX12_init 118 = .ok (.putfield 49, 3) := by decide +kernel
theorem dX12_init_121 : decode cX12_init 121 = .ok (.aload_n 0, 1) := by decide +kernel
theorem dX12_init_122 : decode cX12_init 122 = .ok (.bipush 60, 2) := by decide +kernel
theorem dX12_init_124 : decode cX12_init 124 = .ok (.newarray .int, 2) := by decide +kernel
theorem dX12_init_126 : decode cX12_init 126 = .ok (.putfield 52, 3) := by decide +kernel
theorem dX12_init_129 : decode cX12_init 129 = .ok (.aload_n 0, 1) := by decide +kernel
theorem dX12_init_130 : decode cX12_init 130 = .ok (.bipush 8, 2) := by decide +kernel
theorem dX12_init_132 : decode cX12_init 132 = .ok (.newarray .int, 2) := by decide +kernel
theorem dX12_init_134 : decode cX12_init 134 = .ok (.putfield 55, 3) := by decide +kernel
theorem dX12_init_137 : decode cX12_init 137 = .ok (.aload_n 0, 1) := by decide +kernel
theorem dX12_init_138 : decode cX12_init 138 = .ok (.bipush 60, 2) := by decide +kernel
theorem dX12_init_140 : decode cX12_init 140 = .ok (.newarray .int, 2) := by decide +kernel
theorem dX12_init_142 : decode cX12_init 142 = .ok (.putfield 58, 3) := by decide +kernel
theorem dX12_init_145 : decode cX12_init 145 = .ok (.aload_n 0, 1) := by decide +kernel
theorem dX12_init_146 : decode cX12_init 146 = .ok (.sipush 2800, 3) := by decide +kernel
theorem dX12_init_149 : decode cX12_init 149 = .ok (.newarray .int, 2) := by decide +kernel
theorem dX12_init_151 : decode cX12_init 151 = .ok (.putfield 61, 3) := by decide +kernel
theorem dX12_init_154 : decode cX12_init 154 = .ok (.aload_n 0, 1) := by decide +kernel
theorem dX12_init_155 : decode cX12_init 155 = .ok (.bipush 7, 2) := by decide +kernel
theorem dX12_init_157 : decode cX12_init 157 = .ok (.newarray .int, 2) := by decide +kernel
theorem dX12_init_159 : decode cX12_init 159 = .ok (.putfield 64, 3) := by decide +kernel
theorem dX12_init_162 : decode cX12_init 162 = .ok (.aload_n 0, 1) := by decide +kernel
theorem dX12_init_163 : decode cX12_init 163 = .ok (.sipush 448, 3) := by decide +kernel
theorem dX12_init_166 : decode cX12_init 166 = .ok (.newarray .int, 2) := by decide +kernel
theorem dX12_init_168 : decode cX12_init 168 = .ok (.putfield 67, 3) := by decide +kernel
theorem dX12_init_171 : decode cX12_init 171 = .ok (.aload_n 0, 1) := by decide +kernel
theorem dX12_init_172 : decode cX12_init 172 = .ok (.sipush 448, 3) := by decide +kernel
theorem dX12_init_175 : decode cX12_init 175 = .ok (.newarray .int, 2) := by decide +kernel
theorem dX12_init_177 : decode cX12_init 177 = .ok (.putfield 70, 3) := by decide +kernel
theorem dX12_init_180 : decode cX12_init 180 = .ok (.aload_n 0, 1) := by decide +kernel
theorem dX12_init_181 : decode cX12_init 181 = .ok (.sipush 400, 3) := by decide +kernel
theorem dX12_init_184 : decode cX12_init 184 = .ok (.newarray .long, 2) := by decide +kernel
theorem dX12_init_186 : decode cX12_init 186 = .ok (.putfield 73, 3) := by decide +kernel
theorem dX12_init_189 : decode cX12_init 189 = .ok (.aload_n 0, 1) := by decide +kernel
theorem dX12_init_190 : decode cX12_init 190 = .ok (.bipush 8, 2) := by decide +kernel
theorem dX12_init_192 : decode cX12_init 192 = .ok (.newarray .int, 2) := by decide +kernel
theorem dX12_init_194 : decode cX12_init 194 = .ok (.putfield 77, 3) := by decide +kernel
theorem dX12_init_197 : decode cX12_init 197 = .ok (.aload_n 0, 1) := by decide +kernel
theorem dX12_init_198 : decode cX12_init 198 = .ok (.sipush 3600, 3) := by decide +kernel
theorem dX12_init_201 : decode cX12_init 201 = .ok (.newarray .int, 2) := by decide +kernel
theorem dX12_init_203 : decode cX12_init 203 = .ok (.putfield 80, 3) := by decide +kernel
theorem dX12_init_206 : decode cX12_init 206 = .ok (.aload_n 0, 1) := by decide +kernel
theorem dX12_init_207 : decode cX12_init 207 = .ok (.sipush 1024, 3) := by decide +kernel
theorem dX12_init_210 : decode cX12_init 210 = .ok (.newarray .int, 2) := by decide +kernel
theorem dX12_init_212 : decode cX12_init 212 = .ok (.putfield 83, 3) := by decide +kernel
theorem dX12_init_215 : decode cX12_init 215 = .ok (.aload_n 0, 1) := by decide +kernel
theorem dX12_init_216 : decode cX12_init 216 = .ok (.sipush 1024, 3) := by decide +kernel
theorem dX12_init_219 : decode cX12_init 219 = .ok (.newarray .boolean, 2) := by decide +kernel
theorem dX12_init_221 : decode cX12_init 221 = .ok (.putfield 86, 3) := by decide +kernel
theorem dX12_init_224 : decode cX12_init 224 = .ok (.aload_n 0, 1) := by decide +kernel
theorem dX12_init_225 : decode cX12_init 225 = .ok (.bipush 24, 2) := by decide +kernel
theorem dX12_init_227 : decode cX12_init 227 = .ok (.newarray .int, 2) := by decide +kernel
theorem dX12_init_229 : decode cX12_init 229 = .ok (.putfield 90, 3) := by decide +kernel
theorem dX12_init_232 : decode cX12_init 232 = .ok (.aload_n 0, 1) := by decide +kernel
theorem dX12_init_233 : decode cX12_init 233 = .ok (.bipush 30, 2) := by decide +kernel
theorem dX12_init_235 : decode cX12_init 235 = .ok (.newarray .int, 2) := by decide +kernel
theorem dX12_init_237 : decode cX12_init 237 = .ok (.putfield 93, 3) := by decide +kernel
theorem dX12_init_240 : decode cX12_init 240 = .ok (.aload_n 0, 1) := by decide +kernel
theorem dX12_init_241 : decode cX12_init 241 = .ok (.bipush 30, 2) := by decide +kernel
theorem dX12_init_243 : decode cX12_init 243 = .ok (.newarray .int, 2) := by decide +kernel
theorem dX12_init_245 : decode cX12_init 245 = .ok (.putfield 96, 3) := by decide +kernel
theorem dX12_init_248 : decode cX12_init 248 = .ok (.aload_n 0, 1) := by decide +kernel
theorem dX12_init_249 : decode cX12_init 249 = .ok (.bipush 30, 2) := by decide +kernel
theorem dX12_init_251 : decode cX12_init 251 = .ok (.newarray .int, 2) := by decide +kernel
theorem dX12_init_253 : decode cX12_init 253 = .ok (.putfield 99, 3) := by decide +kernel
theorem dX12_init_256 : decode cX12_init 256 = .ok (.aload_n 0, 1) := by decide +kernel
theorem dX12_init_257 : decode cX12_init 257 = .ok (.bipush 120, 2) := by decide +kernel
theorem dX12_init_259 : decode cX12_init 259 = .ok (.newarray .int, 2) := by decide +kernel
theorem dX12_init_261 : decode cX12_init 261 = .ok (.putfield 102, 3) := by decide +kernel
theorem dX12_init_264 : decode cX12_init 264 = .ok (.aload_n 0, 1) := by decide +kernel
theorem dX12_init_265 : decode cX12_init 265 = .ok (.bipush 6, 2) := by decide +kernel
theorem dX12_init_267 : decode cX12_init 267 = .ok (.newarray .int, 2) := by decide +kernel
theorem dX12_init_269 : decode cX12_init 269 = .ok (.putfield 105, 3) := by decide +kernel
theorem dX12_init_272 : decode cX12_init 272 = .ok (.aload_n 0, 1) := by decide +kernel
theorem dX12_init_273 : decode cX12_init 273 = .ok (.iconst 1, 1) := by decide +kernel
theorem dX12_init_274 : decode cX12_init 274 = .ok (.putfield 108, 3) := by decide +kernel
theorem dX12_init_277 : decode cX12_init 277 = .ok (.aload_n 0, 1) := by decide +kernel
theorem dX12_init_278 : decode cX12_init 278 = .ok (.bipush 24, 2) := by decide +kernel
theorem dX12_init_280 : decode cX12_init 280 = .ok (.newarray .int, 2) := by decide +kernel
theorem dX12_init_282 : decode cX12_init 282 = .ok (.putfield 112, 3) := by decide +kernel
theorem dX12_init_285 : decode cX12_init 285 = .ok (.aload_n 0, 1) := by decide +kernel
theorem dX12_init_286 : decode cX12_init 286 = .ok (.bipush 24, 2) := by decide +kernel
theorem dX12_init_288 : decode cX12_init 288 = .ok (.newarray .int, 2) := by decide +kernel
theorem dX12_init_290 : decode cX12_init 290 = .ok (.putfield 115, 3) := by decide +kernel
theorem dX12_init_293 : decode cX12_init 293 = .ok (.return_, 1) := by decide +kernel
theorem dX12_thrown_0 : decode cX12_thrown 0 = .ok (.aload_n 0, 1) := by decide +kernel
theorem dX12_thrown_1 : decode cX12_thrown 1 = .ok (.getfield 118, 3) := by decide +kernel
theorem dX12_thrown_4 : decode cX12_thrown 4 = .ok (.ireturn, 1) := by decide +kernel
theorem dX12_sort_0 : decode cX12_sort 0 = .ok (.iload_n 1, 1) := by decide +kernel
theorem dX12_sort_1 : decode cX12_sort 1 = .ok (.iconst 5, 1) := by decide +kernel
theorem dX12_sort_2 : decode cX12_sort 2 = .ok (.sipush 200, 3) := by decide +kernel
theorem dX12_sort_5 : decode cX12_sort 5 = .ok (.invokestatic 121, 3) := by decide +kernel
theorem dX12_sort_8 : decode cX12_sort 8 = .ok (.ifCond .eq 32, 3) := by decide +kernel
theorem dX12_sort_11 : decode cX12_sort 11 = .ok (.iload_n 2, 1) := by decide +kernel
theorem dX12_sort_12 : decode cX12_sort 12 = .ok (.iconst 0, 1) := by decide +kernel
theorem dX12_sort_13 : decode cX12_sort 13 = .ok (.bipush 9, 2) := by decide +kernel
theorem dX12_sort_15 : decode cX12_sort 15 = .ok (.invokestatic 121, 3) := by decide +kernel
theorem dX12_sort_18 : decode cX12_sort 18 = .ok (.ifCond .eq 22, 3) := by decide +kernel
theorem dX12_sort_21 : decode cX12_sort 21 = .ok (.iload_n 3, 1) := by decide +kernel
theorem dX12_sort_22 : decode cX12_sort 22 = .ok (.iconst 0, 1) := by decide +kernel
theorem dX12_sort_23 : decode cX12_sort 23 = .ok (.bipush 99, 2) := by decide +kernel
theorem dX12_sort_25 : decode cX12_sort 25 = .ok (.invokestatic 121, 3) := by decide +kernel
theorem dX12_sort_28 : decode cX12_sort 28 = .ok (.ifCond .eq 12, 3) := by decide +kernel
theorem dX12_sort_31 : decode cX12_sort 31 = .ok (.aload_n 0, 1) := by decide +kernel
theorem dX12_sort_32 : decode cX12_sort 32 = .ok (.getfield 125, 3) := by decide +kernel
theorem dX12_sort_35 : decode cX12_sort 35 = .ok (.bipush 6, 2) := by decide +kernel
theorem dX12_sort_37 : decode cX12_sort 37 = .ok (.if_icmp .ne 5, 3) := by decide +kernel
theorem dX12_sort_40 : decode cX12_sort 40 = .ok (.iconst (-1), 1) := by decide +kernel
theorem dX12_sort_41 : decode cX12_sort 41 = .ok (.ireturn, 1) := by decide +kernel
theorem dX12_sort_42 : decode cX12_sort 42 = .ok (.aload_n 0, 1) := by decide +kernel
theorem dX12_sort_43 : decode cX12_sort 43 = .ok (.getfield 9, 3) := by decide +kernel
theorem dX12_sort_46 : decode cX12_sort 46 = .ok (.aload_n 0, 1) := by decide +kernel
theorem dX12_sort_47 : decode cX12_sort 47 = .ok (.getfield 125, 3) := by decide +kernel
theorem dX12_sort_50 : decode cX12_sort 50 = .ok (.iload_n 1, 1) := by decide +kernel
theorem dX12_sort_51 : decode cX12_sort 51 = .ok (.iastore, 1) := by decide +kernel
theorem dX12_sort_52 : decode cX12_sort 52 = .ok (.aload_n 0, 1) := by decide +kernel
theorem dX12_sort_53 : decode cX12_sort 53 = .ok (.getfield 13, 3) := by decide +kernel
theorem dX12_sort_56 : decode cX12_sort 56 = .ok (.aload_n 0, 1) := by decide +kernel
theorem dX12_sort_57 : decode cX12_sort 57 = .ok (.getfield 125, 3) := by decide +kernel
theorem dX12_sort_60 : decode cX12_sort 60 = .ok (.iload_n 2, 1) := by decide +kernel
theorem dX12_sort_61 : decode cX12_sort 61 = .ok (.iastore, 1) := by decide +kernel
theorem dX12_sort_62 : decode cX12_sort 62 = .ok (.aload_n 0, 1) := by decide +kernel
theorem dX12_sort_63 : decode cX12_sort 63 = .ok (.getfield 16, 3) := by decide +kernel
theorem dX12_sort_66 : decode cX12_sort 66 = .ok (.aload_n 0, 1) := by decide +kernel
theorem dX12_sort_67 : decode cX12_sort 67 = .ok (.getfield 125, 3) := by decide +kernel
theorem dX12_sort_70 : decode cX12_sort 70 = .ok (.iload_n 3, 1) := by decide +kernel
theorem dX12_sort_71 : decode cX12_sort 71 = .ok (.iastore, 1) := by decide +kernel
theorem dX12_sort_72 : decode cX12_sort 72 = .ok (.aload_n 0, 1) := by decide +kernel
theorem dX12_sort_73 : decode cX12_sort 73 = .ok (.dup, 1) := by decide +kernel
theorem dX12_sort_74 : decode cX12_sort 74 = .ok (.getfield 125, 3) := by decide +kernel
theorem dX12_sort_77 : decode cX12_sort 77 = .ok (.iconst 1, 1) := by decide +kernel
theorem dX12_sort_78 : decode cX12_sort 78 = .ok (.iadd, 1) := by decide +kernel
theorem dX12_sort_79 : decode cX12_sort 79 = .ok (.putfield 125, 3) := by decide +kernel
theorem dX12_sort_82 : decode cX12_sort 82 = .ok (.aload_n 0, 1) := by decide +kernel
theorem dX12_sort_83 : decode cX12_sort 83 = .ok (.getfield 125, 3) := by decide +kernel
theorem dX12_sort_86 : decode cX12_sort 86 = .ok (.iconst 1, 1) := by decide +kernel
theorem dX12_sort_87 : decode cX12_sort 87 = .ok (.isub, 1) := by decide +kernel
theorem dX12_sort_88 : decode cX12_sort 88 = .ok (.ireturn, 1) := by decide +kernel
theorem dX12_byteOf_0 : decode cX12_byteOf 0 = .ok (.iload 5, 2) := by decide +kernel
theorem dX12_byteOf_2 : decode cX12_byteOf 2 = .ok (.iconst 4, 1) := by decide +kernel
theorem dX12_byteOf_3 : decode cX12_byteOf 3 = .ok (.if_icmp .ge 7, 3) := by decide +kernel
theorem dX12_byteOf_6 : decode cX12_byteOf 6 = .ok (.iload_n 0, 1) := by decide +kernel
theorem dX12_byteOf_7 : decode cX12_byteOf 7 = .ok (.goto 38, 3) := by decide +kernel
theorem dX12_byteOf_10 : decode cX12_byteOf 10 = .ok (.iload 5, 2) := by decide +kernel
theorem dX12_byteOf_12 : decode cX12_byteOf 12 = .ok (.bipush 8, 2) := by decide +kernel
theorem dX12_byteOf_14 : decode cX12_byteOf 14 = .ok (.if_icmp .ge 7, 3) := by decide +kernel
theorem dX12_byteOf_17 : decode cX12_byteOf 17 = .ok (.iload_n 1, 1) := by decide +kernel
theorem dX12_byteOf_18 : decode cX12_byteOf 18 = .ok (.goto 27, 3) := by decide +kernel
theorem dX12_byteOf_21 : decode cX12_byteOf 21 = .ok (.iload 5, 2) := by decide +kernel
theorem dX12_byteOf_23 : decode cX12_byteOf 23 = .ok (.bipush 12, 2) := by decide +kernel
theorem dX12_byteOf_25 : decode cX12_byteOf 25 = .ok (.if_icmp .ge 7, 3) := by decide +kernel
theorem dX12_byteOf_28 : decode cX12_byteOf 28 = .ok (.iload_n 2, 1) := by decide +kernel
theorem dX12_byteOf_29 : decode cX12_byteOf 29 = .ok (.goto 16, 3) := by decide +kernel
theorem dX12_byteOf_32 : decode cX12_byteOf 32 = .ok (.iload 5, 2) := by decide +kernel
theorem dX12_byteOf_34 : decode cX12_byteOf 34 = .ok (.bipush 16, 2) := by decide +kernel
theorem dX12_byteOf_36 : decode cX12_byteOf 36 = .ok (.if_icmp .ge 7, 3) := by decide +kernel
theorem dX12_byteOf_39 : decode cX12_byteOf 39 = .ok (.iload_n 3, 1) := by decide +kernel
theorem dX12_byteOf_40 : decode cX12_byteOf 40 = .ok (.goto 5, 3) := by decide +kernel
theorem dX12_byteOf_43 : decode cX12_byteOf 43 = .ok (.iload 4, 2) := by decide +kernel
theorem dX12_byteOf_45 : decode cX12_byteOf 45 = .ok (.istore 6, 2) := by decide +kernel
theorem dX12_byteOf_47 : decode cX12_byteOf 47 = .ok (.iload 6, 2) := by decide +kernel
theorem dX12_byteOf_49 : decode cX12_byteOf 49 = .ok (.bipush 24, 2) := by decide +kernel
theorem dX12_byteOf_51 : decode cX12_byteOf 51 = .ok (.bipush 8, 2) := by decide +kernel
theorem dX12_byteOf_53 : decode cX12_byteOf 53 = .ok (.iload 5, 2) := by decide +kernel
theorem dX12_byteOf_55 : decode cX12_byteOf 55 = .ok (.iconst 4, 1) := by decide +kernel
theorem dX12_byteOf_56 : decode cX12_byteOf 56 = .ok (.irem, 1) := by decide +kernel
theorem dX12_byteOf_57 : decode cX12_byteOf 57 = .ok (.imul, 1) := by decide +kernel
theorem dX12_byteOf_58 : decode cX12_byteOf 58 = .ok (.isub, 1) := by decide +kernel
theorem dX12_byteOf_59 : decode cX12_byteOf 59 = .ok (.ishr, 1) := by decide +kernel
theorem dX12_byteOf_60 : decode cX12_byteOf 60 = .ok (.sipush 255, 3) := by decide +kernel
theorem dX12_byteOf_63 : decode cX12_byteOf 63 = .ok (.iand, 1) := by decide +kernel
theorem dX12_byteOf_64 : decode cX12_byteOf 64 = .ok (.ireturn, 1) := by decide +kernel
theorem dX12_feed_0 : decode cX12_feed 0 = .ok (.iconst 0, 1) := by decide +kernel
theorem dX12_feed_1 : decode cX12_feed 1 = .ok (.istore 6, 2) := by decide +kernel
theorem dX12_feed_3 : decode cX12_feed 3 = .ok (.iconst 0, 1) := by decide +kernel
theorem dX12_feed_4 : decode cX12_feed 4 = .ok (.istore 7, 2) := by decide +kernel
theorem dX12_feed_6 : decode cX12_feed 6 = .ok (.iload 7, 2) := by decide +kernel
theorem dX12_feed_8 : decode cX12_feed 8 = .ok (.bipush 20, 2) := by decide +kernel
theorem dX12_feed_10 : decode cX12_feed 10 = .ok (.if_icmp .ge 34, 3) := by decide +kernel
theorem dX12_feed_13 : decode cX12_feed 13 = .ok (.iload 6, 2) := by decide +kernel
theorem dX12_feed_15 : decode cX12_feed 15 = .ok (.iload_n 1, 1) := by decide +kernel
theorem dX12_feed_16 : decode cX12_feed 16 = .ok (.iload_n 2, 1) := by decide +kernel
theorem dX12_feed_17 : decode cX12_feed 17 = .ok (.iload_n 3, 1) := by decide +kernel
theorem dX12_feed_18 : decode cX12_feed 18 = .ok (.iload 4, 2) := by decide +kernel
theorem dX12_feed_20 : decode cX12_feed 20 = .ok (.iload 5, 2) := by decide +kernel
theorem dX12_feed_22 : decode cX12_feed 22 = .ok (.iload 7, 2) := by decide +kernel
theorem dX12_feed_24 : decode cX12_feed 24 = .ok (.invokestatic 128, 3) := by decide +kernel
theorem dX12_feed_27 : decode cX12_feed 27 = .ok (.ifCond .eq 7, 3) := by decide +kernel
theorem dX12_feed_30 : decode cX12_feed 30 = .ok (.iconst 1, 1) := by decide +kernel
theorem dX12_feed_31 : decode cX12_feed 31 = .ok (.goto 4, 3) := by decide +kernel
theorem dX12_feed_34 : decode cX12_feed 34 = .ok (.iconst 0, 1) := by decide +kernel
theorem dX12_feed_35 : decode cX12_feed 35 = .ok (.iadd, 1) := by decide +kernel
theorem dX12_feed_36 : decode cX12_feed 36 = .ok (.istore 6, 2) := by decide +kernel
theorem dX12_feed_38 : decode cX12_feed 38 = .ok (.iinc 7 1, 3) := by decide +kernel
theorem dX12_feed_41 : decode cX12_feed 41 = .ok (.goto (-35), 3) := by decide +kernel
theorem dX12_feed_44 : decode cX12_feed 44 = .ok (.aload_n 0, 1) := by decide +kernel
theorem dX12_feed_45 : decode cX12_feed 45 = .ok (.getfield 132, 3) := by decide +kernel
theorem dX12_feed_48 : decode cX12_feed 48 = .ok (.iload 6, 2) := by decide +kernel
theorem dX12_feed_50 : decode cX12_feed 50 = .ok (.iadd, 1) := by decide +kernel
theorem dX12_feed_51 : decode cX12_feed 51 = .ok (.sipush 200, 3) := by decide +kernel
theorem dX12_feed_54 : decode cX12_feed 54 = .ok (.if_icmp .le 5, 3) := by decide +kernel
theorem dX12_feed_57 : decode cX12_feed 57 = .ok (.iconst (-1), 1) := by decide +kernel
theorem dX12_feed_58 : decode cX12_feed 58 = .ok (.ireturn, 1) := by decide +kernel
theorem dX12_feed_59 : decode cX12_feed 59 = .ok (.iconst 0, 1) := by decide +kernel
theorem dX12_feed_60 : decode cX12_feed 60 = .ok (.istore 7, 2) := by decide +kernel
theorem dX12_feed_62 : decode cX12_feed 62 = .ok (.iload 7, 2) := by decide +kernel
theorem dX12_feed_64 : decode cX12_feed 64 = .ok (.bipush 20, 2) := by decide +kernel
theorem dX12_feed_66 : decode cX12_feed 66 = .ok (.if_icmp .ge 49, 3) := by decide +kernel
theorem dX12_feed_69 : decode cX12_feed 69 = .ok (.iload_n 1, 1) := by decide +kernel
theorem dX12_feed_70 : decode cX12_feed 70 = .ok (.iload_n 2, 1) := by decide +kernel
theorem dX12_feed_71 : decode cX12_feed 71 = .ok (.iload_n 3, 1) := by decide +kernel
theorem dX12_feed_72 : decode cX12_feed 72 = .ok (.iload 4, 2) := by decide +kernel
theorem dX12_feed_74 : decode cX12_feed 74 = .ok (.iload 5, 2) := by decide +kernel
theorem dX12_feed_76 : decode cX12_feed 76 = .ok (.iload 7, 2) := by decide +kernel
theorem dX12_feed_78 : decode cX12_feed 78 = .ok (.invokestatic 128, 3) := by decide +kernel
theorem dX12_feed_81 : decode cX12_feed 81 = .ok (.istore 8, 2) := by decide +kernel
theorem dX12_feed_83 : decode cX12_feed 83 = .ok (.iload 8, 2) := by decide +kernel
theorem dX12_feed_85 : decode cX12_feed 85 = .ok (.ifCond .eq 24, 3) := by decide +kernel
theorem dX12_feed_88 : decode cX12_feed 88 = .ok (.aload_n 0, 1) := by decide +kernel
theorem dX12_feed_89 : decode cX12_feed 89 = .ok (.getfield 22, 3) := by decide +kernel
theorem dX12_feed_92 : decode cX12_feed 92 = .ok (.aload_n 0, 1) := by decide +kernel
theorem dX12_feed_93 : decode cX12_feed 93 = .ok (.getfield 132, 3) := by decide +kernel
theorem dX12_feed_96 : decode cX12_feed 96 = .ok (.iload 8, 2) := by decide +kernel
theorem dX12_feed_98 : decode cX12_feed 98 = .ok (.iastore, 1) := by decide +kernel
theorem dX12_feed_99 : decode cX12_feed 99 = .ok (.aload_n 0, 1) := by decide +kernel
theorem dX12_feed_100 : decode cX12_feed 100 = .ok (.dup, 1) := by decide +kernel
theorem dX12_feed_101 : decode cX12_feed 101 = .ok (.getfield 132, 3) := by decide +kernel
theorem dX12_feed_104 : decode cX12_feed 104 = .ok (.iconst 1, 1) := by decide +kernel
theorem dX12_feed_105 : decode cX12_feed 105 = .ok (.iadd, 1) := by decide +kernel
theorem dX12_feed_106 : decode cX12_feed 106 = .ok (.putfield 132, 3) := by decide +kernel
theorem dX12_feed_109 : decode cX12_feed 109 = .ok (.iinc 7 1, 3) := by decide +kernel
theorem dX12_feed_112 : decode cX12_feed 112 = .ok (.goto (-50), 3) := by decide +kernel
theorem dX12_feed_115 : decode cX12_feed 115 = .ok (.aload_n 0, 1) := by decide +kernel
theorem dX12_feed_116 : decode cX12_feed 116 = .ok (.getfield 132, 3) := by decide +kernel
theorem dX12_feed_119 : decode cX12_feed 119 = .ok (.ireturn, 1) := by decide +kernel
theorem dX12_end_0 : decode cX12_end 0 = .ok (.iload_n 1, 1) := by decide +kernel
theorem dX12_end_1 : decode cX12_end 1 = .ok (.ifCond .lt 11, 3) := by decide +kernel
theorem dX12_end_4 : decode cX12_end 4 = .ok (.iload_n 1, 1) := by decide +kernel
theorem dX12_end_5 : decode cX12_end 5 = .ok (.aload_n 0, 1) := by decide +kernel
theorem dX12_end_6 : decode cX12_end 6 = .ok (.getfield 132, 3) := by decide +kernel
theorem dX12_end_9 : decode cX12_end 9 = .ok (.if_icmp .le 5, 3) := by decide +kernel
theorem dX12_end_12 : decode cX12_end 12 = .ok (.iconst 0, 1) := by decide +kernel
theorem dX12_end_13 : decode cX12_end 13 = .ok (.ireturn, 1) := by decide +kernel
theorem dX12_end_14 : decode cX12_end 14 = .ok (.aload_n 0, 1) := by decide +kernel
theorem dX12_end_15 : decode cX12_end 15 = .ok (.iload_n 1, 1) := by decide +kernel
theorem dX12_end_16 : decode cX12_end 16 = .ok (.putfield 132, 3) := by decide +kernel
theorem dX12_end_19 : decode cX12_end 19 = .ok (.iconst 1, 1) := by decide +kernel
theorem dX12_end_20 : decode cX12_end 20 = .ok (.ireturn, 1) := by decide +kernel
theorem dX12_here_0 : decode cX12_here 0 = .ok (.aload_n 0, 1) := by decide +kernel
theorem dX12_here_1 : decode cX12_here 1 = .ok (.getfield 135, 3) := by decide +kernel
theorem dX12_here_4 : decode cX12_here 4 = .ok (.aload_n 0, 1) := by decide +kernel
theorem dX12_here_5 : decode cX12_here 5 = .ok (.getfield 132, 3) := by decide +kernel
theorem dX12_here_8 : decode cX12_here 8 = .ok (.if_icmp .ge 15, 3) := by decide +kernel
theorem dX12_here_11 : decode cX12_here 11 = .ok (.aload_n 0, 1) := by decide +kernel
theorem dX12_here_12 : decode cX12_here 12 = .ok (.getfield 22, 3) := by decide +kernel
theorem dX12_here_15 : decode cX12_here 15 = .ok (.aload_n 0, 1) := by decide +kernel
theorem dX12_here_16 : decode cX12_here 16 = .ok (.getfield 135, 3) := by decide +kernel
theorem dX12_here_19 : decode cX12_here 19 = .ok (.iaload, 1) := by decide +kernel
theorem dX12_here_20 : decode cX12_here 20 = .ok (.goto 4, 3) := by decide +kernel
theorem dX12_here_23 : decode cX12_here 23 = .ok (.iconst (-1), 1) := by decide +kernel
theorem dX12_here_24 : decode cX12_here 24 = .ok (.ireturn, 1) := by decide +kernel
theorem dX12_look_0 : decode cX12_look 0 = .ok (.aload_n 0, 1) := by decide +kernel
theorem dX12_look_1 : decode cX12_look 1 = .ok (.invokevirtual 138, 3) := by decide +kernel
theorem dX12_look_4 : decode cX12_look 4 = .ok (.bipush 32, 2) := by decide +kernel
theorem dX12_look_6 : decode cX12_look 6 = .ok (.if_icmp .ne 16, 3) := by decide +kernel
theorem dX12_look_9 : decode cX12_look 9 = .ok (.aload_n 0, 1) := by decide +kernel
theorem dX12_look_10 : decode cX12_look 10 = .ok (.dup, 1) := by decide +kernel
theorem dX12_look_11 : decode cX12_look 11 = .ok (.getfield 135, 3) := by decide +kernel
theorem dX12_look_14 : decode cX12_look 14 = .ok (.iconst 1, 1) := by decide +kernel
theorem dX12_look_15 : decode cX12_look 15 = .ok (.iadd, 1) := by decide +kernel
theorem dX12_look_16 : decode cX12_look 16 = .ok (.putfield 135, 3) := by decide +kernel
theorem dX12_look_19 : decode cX12_look 19 = .ok (.goto (-19), 3) := by decide +kernel
theorem dX12_look_22 : decode cX12_look 22 = .ok (.aload_n 0, 1) := by decide +kernel
theorem dX12_look_23 : decode cX12_look 23 = .ok (.invokevirtual 138, 3) := by decide +kernel
theorem dX12_look_26 : decode cX12_look 26 = .ok (.ireturn, 1) := by decide +kernel
theorem dX12_bad_0 : decode cX12_bad 0 = .ok (.aload_n 0, 1) := by decide +kernel
theorem dX12_bad_1 : decode cX12_bad 1 = .ok (.aload_n 0, 1) := by decide +kernel
theorem dX12_bad_2 : decode cX12_bad 2 = .ok (.getfield 142, 3) := by decide +kernel
theorem dX12_bad_5 : decode cX12_bad 5 = .ok (.iconst (-1), 1) := by decide +kernel
theorem dX12_bad_6 : decode cX12_bad 6 = .ok (.if_icmp .ne 10, 3) := by decide +kernel
theorem dX12_bad_9 : decode cX12_bad 9 = .ok (.aload_n 0, 1) := by decide +kernel
theorem dX12_bad_10 : decode cX12_bad 10 = .ok (.getfield 135, 3) := by decide +kernel
theorem dX12_bad_13 : decode cX12_bad 13 = .ok (.goto 7, 3) := by decide +kernel
theorem dX12_bad_16 : decode cX12_bad 16 = .ok (.aload_n 0, 1) := by decide +kernel
theorem dX12_bad_17 : decode cX12_bad 17 = .ok (.getfield 142, 3) := by decide +kernel
theorem dX12_bad_20 : decode cX12_bad 20 = .ok (.putfield 142, 3) := by decide +kernel
theorem dX12_bad_23 : decode cX12_bad 23 = .ok (.return_, 1) := by decide +kernel
theorem dX12_isDigit_0 : decode cX12_isDigit 0 = .ok (.iload_n 0, 1) := by decide +kernel
theorem dX12_isDigit_1 : decode cX12_isDigit 1 = .ok (.bipush 48, 2) := by decide +kernel
theorem dX12_isDigit_3 : decode cX12_isDigit 3 = .ok (.if_icmp .lt 13, 3) := by decide +kernel
theorem dX12_isDigit_6 : decode cX12_isDigit 6 = .ok (.iload_n 0, 1) := by decide +kernel
theorem dX12_isDigit_7 : decode cX12_isDigit 7 = .ok (.bipush 57, 2) := by decide +kernel
theorem dX12_isDigit_9 : decode cX12_isDigit 9 = .ok (.if_icmp .gt 7, 3) := by decide +kernel
theorem dX12_isDigit_12 : decode cX12_isDigit 12 = .ok (.iconst 1, 1) := by decide +kernel
theorem dX12_isDigit_13 : decode cX12_isDigit 13 = .ok (.goto 4, 3) := by decide +kernel
theorem dX12_isDigit_16 : decode cX12_isDigit 16 = .ok (.iconst 0, 1) := by decide +kernel
theorem dX12_isDigit_17 : decode cX12_isDigit 17 = .ok (.ireturn, 1) := by decide +kernel
theorem dX12_find_0 : decode cX12_find 0 = .ok (.iload_n 1, 1) := by decide +kernel
theorem dX12_find_1 : decode cX12_find 1 = .ok (.istore_n 2, 1) := by decide +kernel
theorem dX12_find_2 : decode cX12_find 2 = .ok (.aload_n 0, 1) := by decide +kernel
theorem dX12_find_3 : decode cX12_find 3 = .ok (.getfield 52, 3) := by decide +kernel
theorem dX12_find_6 : decode cX12_find 6 = .ok (.iload_n 2, 1) := by decide +kernel
theorem dX12_find_7 : decode cX12_find 7 = .ok (.iaload, 1) := by decide +kernel
theorem dX12_find_8 : decode cX12_find 8 = .ok (.iload_n 2, 1) := by decide +kernel
theorem dX12_find_9 : decode cX12_find 9 = .ok (.if_icmp .eq 13, 3) := by decide +kernel
theorem dX12_find_12 : decode cX12_find 12 = .ok (.aload_n 0, 1) := by decide +kernel
theorem dX12_find_13 : decode cX12_find 13 = .ok (.getfield 52, 3) := by decide +kernel
theorem dX12_find_16 : decode cX12_find 16 = .ok (.iload_n 2, 1) := by decide +kernel
theorem dX12_find_17 : decode cX12_find 17 = .ok (.iaload, 1) := by decide +kernel
theorem dX12_find_18 : decode cX12_find 18 = .ok (.istore_n 2, 1) := by decide +kernel
theorem dX12_find_19 : decode cX12_find 19 = .ok (.goto (-17), 3) := by decide +kernel
theorem dX12_find_22 : decode cX12_find 22 = .ok (.iload_n 2, 1) := by decide +kernel
theorem dX12_find_23 : decode cX12_find 23 = .ok (.ireturn, 1) := by decide +kernel
theorem dX12_joinTo_0 : decode cX12_joinTo 0 = .ok (.aload_n 0, 1) := by decide +kernel
theorem dX12_joinTo_1 : decode cX12_joinTo 1 = .ok (.iload_n 1, 1) := by decide +kernel
theorem dX12_joinTo_2 : decode cX12_joinTo 2 = .ok (.invokevirtual 145, 3) := by decide +kernel
theorem dX12_joinTo_5 : decode cX12_joinTo 5 = .ok (.istore_n 3, 1) := by decide +kernel
theorem dX12_joinTo_6 : decode cX12_joinTo 6 = .ok (.aload_n 0, 1) := by decide +kernel
theorem dX12_joinTo_7 : decode cX12_joinTo 7 = .ok (.iload_n 2, 1) := by decide +kernel
theorem dX12_joinTo_8 : decode cX12_joinTo 8 = .ok (.invokevirtual 145, 3) := by decide +kernel
theorem dX12_joinTo_11 : decode cX12_joinTo 11 = .ok (.istore 4, 2) := by decide +kernel
theorem dX12_joinTo_13 : decode cX12_joinTo 13 = .ok (.aload_n 0, 1) := by decide +kernel
theorem dX12_joinTo_14 : decode cX12_joinTo 14 = .ok (.getfield 52, 3) := by decide +kernel
theorem dX12_joinTo_17 : decode cX12_joinTo 17 = .ok (.iload_n 3, 1) := by decide +kernel
theorem dX12_joinTo_18 : decode cX12_joinTo 18 = .ok (.iload 4, 2) := by decide +kernel
theorem dX12_joinTo_20 : decode cX12_joinTo 20 = .ok (.invokestatic 149, 3) := by decide +kernel
theorem dX12_joinTo_23 : decode cX12_joinTo 23 = .ok (.iload_n 3, 1) := by decide +kernel
theorem dX12_joinTo_24 : decode cX12_joinTo 24 = .ok (.iload 4, 2) := by decide +kernel
theorem dX12_joinTo_26 : decode cX12_joinTo 26 = .ok (.invokestatic 155, 3) := by decide +kernel
theorem dX12_joinTo_29 : decode cX12_joinTo 29 = .ok (.iastore, 1) := by decide +kernel
theorem dX12_joinTo_30 : decode cX12_joinTo 30 = .ok (.return_, 1) := by decide +kernel
theorem dX12_newPoint_0 : decode cX12_newPoint 0 = .ok (.aload_n 0, 1) := by decide +kernel
theorem dX12_newPoint_1 : decode cX12_newPoint 1 = .ok (.getfield 52, 3) := by decide +kernel
theorem dX12_newPoint_4 : decode cX12_newPoint 4 = .ok (.aload_n 0, 1) := by decide +kernel
theorem dX12_newPoint_5 : decode cX12_newPoint 5 = .ok (.getfield 158, 3) := by decide +kernel
theorem dX12_newPoint_8 : decode cX12_newPoint 8 = .ok (.aload_n 0, 1) := by decide +kernel
theorem dX12_newPoint_9 : decode cX12_newPoint 9 = .ok (.getfield 158, 3) := by decide +kernel
theorem dX12_newPoint_12 : decode cX12_newPoint 12 = .ok (.iastore, 1) := by decide +kernel
theorem dX12_newPoint_13 : decode cX12_newPoint 13 = .ok (.aload_n 0, 1) := by decide +kernel
theorem dX12_newPoint_14 : decode cX12_newPoint 14 = .ok (.dup, 1) := by decide +kernel
theorem dX12_newPoint_15 : decode cX12_newPoint 15 = .ok (.getfield 158, 3) := by decide +kernel
theorem dX12_newPoint_18 : decode cX12_newPoint 18 = .ok (.iconst 1, 1) := by decide +kernel
theorem dX12_newPoint_19 : decode cX12_newPoint 19 = .ok (.iadd, 1) := by decide +kernel
theorem dX12_newPoint_20 : decode cX12_newPoint 20 = .ok (.putfield 158, 3) := by decide +kernel
theorem dX12_newPoint_23 : decode cX12_newPoint 23 = .ok (.aload_n 0, 1) := by decide +kernel
theorem dX12_newPoint_24 : decode cX12_newPoint 24 = .ok (.getfield 158, 3) := by decide +kernel
theorem dX12_newPoint_27 : decode cX12_newPoint 27 = .ok (.iconst 1, 1) := by decide +kernel
theorem dX12_newPoint_28 : decode cX12_newPoint 28 = .ok (.isub, 1) := by decide +kernel
theorem dX12_newPoint_29 : decode cX12_newPoint 29 = .ok (.ireturn, 1) := by decide +kernel
theorem dX12_bubble_0 : decode cX12_bubble 0 = .ok (.aload_n 0, 1) := by decide +kernel
theorem dX12_bubble_1 : decode cX12_bubble 1 = .ok (.getfield 31, 3) := by decide +kernel
theorem dX12_bubble_4 : decode cX12_bubble 4 = .ok (.aload_n 0, 1) := by decide +kernel
theorem dX12_bubble_5 : decode cX12_bubble 5 = .ok (.getfield 161, 3) := by decide +kernel
theorem dX12_bubble_8 : decode cX12_bubble 8 = .ok (.iaload, 1) := by decide +kernel
theorem dX12_bubble_9 : decode cX12_bubble 9 = .ok (.bipush 24, 2) := by decide +kernel
theorem dX12_bubble_11 : decode cX12_bubble 11 = .ok (.if_icmp .ne 8, 3) := by decide +kernel
theorem dX12_bubble_14 : decode cX12_bubble 14 = .ok (.aload_n 0, 1) := by decide +kernel
theorem dX12_bubble_15 : decode cX12_bubble 15 = .ok (.invokevirtual 164, 3) := by decide +kernel
theorem dX12_bubble_18 : decode cX12_bubble 18 = .ok (.return_, 1) := by decide +kernel
theorem dX12_bubble_19 : decode cX12_bubble 19 = .ok (.aload_n 0, 1) := by decide +kernel
theorem dX12_bubble_20 : decode cX12_bubble 20 = .ok (.invokevirtual 138, 3) := by decide +kernel
theorem dX12_bubble_23 : decode cX12_bubble 23 = .ok (.bipush 48, 2) := by decide +kernel
theorem dX12_bubble_25 : decode cX12_bubble 25 = .ok (.isub, 1) := by decide +kernel
theorem dX12_bubble_26 : decode cX12_bubble 26 = .ok (.istore_n 1, 1) := by decide +kernel
theorem dX12_bubble_27 : decode cX12_bubble 27 = .ok (.aload_n 0, 1) := by decide +kernel
theorem dX12_bubble_28 : decode cX12_bubble 28 = .ok (.dup, 1) := by decide +kernel
theorem dX12_bubble_29 : decode cX12_bubble 29 = .ok (.getfield 135, 3) := by decide +kernel
theorem dX12_bubble_32 : decode cX12_bubble 32 = .ok (.iconst 1, 1) := by decide +kernel
theorem dX12_bubble_33 : decode cX12_bubble 33 = .ok (.iadd, 1) := by decide +kernel
theorem dX12_bubble_34 : decode cX12_bubble 34 = .ok (.putfield 135, 3) := by decide +kernel
theorem dX12_bubble_37 : decode cX12_bubble 37 = .ok (.aload_n 0, 1) := by decide +kernel
theorem dX12_bubble_38 : decode cX12_bubble 38 = .ok (.invokevirtual 138, 3) := by decide +kernel
theorem dX12_bubble_41 : decode cX12_bubble 41 = .ok (.invokestatic 167, 3) := by decide +kernel
theorem dX12_bubble_44 : decode cX12_bubble 44 = .ok (.ifCond .eq 26, 3) := by decide +kernel
theorem dX12_bubble_47 : decode cX12_bubble 47 = .ok (.bipush 10, 2) := by decide +kernel
theorem dX12_bubble_49 : decode cX12_bubble 49 = .ok (.iload_n 1, 1) := by decide +kernel
theorem dX12_bubble_50 : decode cX12_bubble 50 = .ok (.imul, 1) := by decide +kernel
theorem dX12_bubble_51 : decode cX12_bubble 51 = .ok (.aload_n 0, 1) := by decide +kernel
theorem dX12_bubble_52 : decode cX12_bubble 52 = .ok (.invokevirtual 138, 3) := by decide +kernel
theorem dX12_bubble_55 : decode cX12_bubble 55 = .ok (.iadd, 1) := by decide +kernel
theorem dX12_bubble_56 : decode cX12_bubble 56 = .ok (.bipush 48, 2) := by decide +kernel
theorem dX12_bubble_58 : decode cX12_bubble 58 = .ok (.isub, 1) := by decide +kernel
theorem dX12_bubble_59 : decode cX12_bubble 59 = .ok (.istore_n 1, 1) := by decide +kernel
theorem dX12_bubble_60 : decode cX12_bubble 60 = .ok (.aload_n 0, 1) := by decide +kernel
theorem dX12_bubble_61 : decode cX12_bubble 61 = .ok (.dup, 1) := by decide +kernel
theorem dX12_bubble_62 : decode cX12_bubble 62 = .ok (.getfield 135, 3) := by decide +kernel
theorem dX12_bubble_65 : decode cX12_bubble 65 = .ok (.iconst 1, 1) := by decide +kernel
theorem dX12_bubble_66 : decode cX12_bubble 66 = .ok (.iadd, 1) := by decide +kernel
theorem dX12_bubble_67 : decode cX12_bubble 67 = .ok (.putfield 135, 3) := by decide +kernel
theorem dX12_bubble_70 : decode cX12_bubble 70 = .ok (.iload_n 1, 1) := by decide +kernel
theorem dX12_bubble_71 : decode cX12_bubble 71 = .ok (.iconst 1, 1) := by decide +kernel
theorem dX12_bubble_72 : decode cX12_bubble 72 = .ok (.bipush 30, 2) := by decide +kernel
theorem dX12_bubble_74 : decode cX12_bubble 74 = .ok (.invokestatic 121, 3) := by decide +kernel
theorem dX12_bubble_77 : decode cX12_bubble 77 = .ok (.ifCond .ne 18, 3) := by decide +kernel
theorem dX12_bubble_80 : decode cX12_bubble 80 = .ok (.aload_n 0, 1) := by decide +kernel
theorem dX12_bubble_81 : decode cX12_bubble 81 = .ok (.dup, 1) := by decide +kernel
theorem dX12_bubble_82 : decode cX12_bubble 82 = .ok (.getfield 135, 3) := by decide +kernel
theorem dX12_bubble_85 : decode cX12_bubble 85 = .ok (.iconst 1, 1) := by decide +kernel
theorem dX12_bubble_86 : decode cX12_bubble 86 = .ok (.isub, 1) := by decide +kernel
theorem dX12_bubble_87 : decode cX12_bubble 87 = .ok (.putfield 135, 3) := by decide +kernel
theorem dX12_bubble_90 : decode cX12_bubble 90 = .ok (.aload_n 0, 1) := by decide +kernel
theorem dX12_bubble_91 : decode cX12_bubble 91 = .ok (.invokevirtual 164, 3) := by decide +kernel
theorem dX12_bubble_94 : decode cX12_bubble 94 = .ok (.return_, 1) := by decide +kernel
theorem dX12_bubble_95 : decode cX12_bubble 95 = .ok (.aload_n 0, 1) := by decide +kernel
theorem dX12_bubble_96 : decode cX12_bubble 96 = .ok (.invokevirtual 138, 3) := by decide +kernel
theorem dX12_bubble_99 : decode cX12_bubble 99 = .ok (.invokestatic 167, 3) := by decide +kernel
theorem dX12_bubble_102 : decode cX12_bubble 102 = .ok (.ifCond .eq 8, 3) := by decide +kernel
theorem dX12_bubble_105 : decode cX12_bubble 105 = .ok (.aload_n 0, 1) := by decide +kernel
theorem dX12_bubble_106 : decode cX12_bubble 106 = .ok (.invokevirtual 164, 3) := by decide +kernel
theorem dX12_bubble_109 : decode cX12_bubble 109 = .ok (.return_, 1) := by decide +kernel
theorem dX12_bubble_110 : decode cX12_bubble 110 = .ok (.bipush 24, 2) := by decide +kernel
theorem dX12_bubble_112 : decode cX12_bubble 112 = .ok (.aload_n 0, 1) := by decide +kernel
theorem dX12_bubble_113 : decode cX12_bubble 113 = .ok (.getfield 161, 3) := by decide +kernel
theorem dX12_bubble_116 : decode cX12_bubble 116 = .ok (.imul, 1) := by decide +kernel
theorem dX12_bubble_117 : decode cX12_bubble 117 = .ok (.aload_n 0, 1) := by decide +kernel
theorem dX12_bubble_118 : decode cX12_bubble 118 = .ok (.getfield 31, 3) := by decide +kernel
theorem dX12_bubble_121 : decode cX12_bubble 121 = .ok (.aload_n 0, 1) := by decide +kernel
theorem dX12_bubble_122 : decode cX12_bubble 122 = .ok (.getfield 161, 3) := by decide +kernel
theorem dX12_bubble_125 : decode cX12_bubble 125 = .ok (.iaload, 1) := by decide +kernel
theorem dX12_bubble_126 : decode cX12_bubble 126 = .ok (.iadd, 1) := by decide +kernel
theorem dX12_bubble_127 : decode cX12_bubble 127 = .ok (.istore_n 2, 1) := by decide +kernel
theorem dX12_bubble_128 : decode cX12_bubble 128 = .ok (.aload_n 0, 1) := by decide +kernel
theorem dX12_bubble_129 : decode cX12_bubble 129 = .ok (.getfield 37, 3) := by decide +kernel
theorem dX12_bubble_132 : decode cX12_bubble 132 = .ok (.iload_n 2, 1) := by decide +kernel
theorem dX12_bubble_133 : decode cX12_bubble 133 = .ok (.iload_n 1, 1) := by decide +kernel
theorem dX12_bubble_134 : decode cX12_bubble 134 = .ok (.iastore, 1) := by decide +kernel
theorem dX12_bubble_135 : decode cX12_bubble 135 = .ok (.aload_n 0, 1) := by decide +kernel
theorem dX12_bubble_136 : decode cX12_bubble 136 = .ok (.getfield 46, 3) := by decide +kernel
theorem dX12_bubble_139 : decode cX12_bubble 139 = .ok (.iload_n 2, 1) := by decide +kernel
theorem dX12_bubble_140 : decode cX12_bubble 140 = .ok (.aload_n 0, 1) := by decide +kernel
theorem dX12_bubble_141 : decode cX12_bubble 141 = .ok (.getfield 25, 3) := by decide +kernel
theorem dX12_bubble_144 : decode cX12_bubble 144 = .ok (.aload_n 0, 1) := by decide +kernel
theorem dX12_bubble_145 : decode cX12_bubble 145 = .ok (.getfield 161, 3) := by decide +kernel
theorem dX12_bubble_148 : decode cX12_bubble 148 = .ok (.iaload, 1) := by decide +kernel
theorem dX12_bubble_149 : decode cX12_bubble 149 = .ok (.iconst 1, 1) := by decide +kernel
theorem dX12_bubble_150 : decode cX12_bubble 150 = .ok (.isub, 1) := by decide +kernel
theorem dX12_bubble_151 : decode cX12_bubble 151 = .ok (.iastore, 1) := by decide +kernel
theorem dX12_bubble_152 : decode cX12_bubble 152 = .ok (.aload_n 0, 1) := by decide +kernel
theorem dX12_bubble_153 : decode cX12_bubble 153 = .ok (.getfield 40, 3) := by decide +kernel
theorem dX12_bubble_156 : decode cX12_bubble 156 = .ok (.iload_n 2, 1) := by decide +kernel
theorem dX12_bubble_157 : decode cX12_bubble 157 = .ok (.aload_n 0, 1) := by decide +kernel
theorem dX12_bubble_158 : decode cX12_bubble 158 = .ok (.getfield 171, 3) := by decide +kernel
theorem dX12_bubble_161 : decode cX12_bubble 161 = .ok (.iastore, 1) := by decide +kernel
theorem dX12_bubble_162 : decode cX12_bubble 162 = .ok (.aload_n 0, 1) := by decide +kernel
theorem dX12_bubble_163 : decode cX12_bubble 163 = .ok (.aload_n 0, 1) := by decide +kernel
theorem dX12_bubble_164 : decode cX12_bubble 164 = .ok (.invokevirtual 174, 3) := by decide +kernel
theorem dX12_bubble_167 : decode cX12_bubble 167 = .ok (.putfield 171, 3) := by decide +kernel
theorem dX12_bubble_170 : decode cX12_bubble 170 = .ok (.aload_n 0, 1) := by decide +kernel
theorem dX12_bubble_171 : decode cX12_bubble 171 = .ok (.getfield 43, 3) := by decide +kernel
theorem dX12_bubble_174 : decode cX12_bubble 174 = .ok (.iload_n 2, 1) := by decide +kernel
theorem dX12_bubble_175 : decode cX12_bubble 175 = .ok (.aload_n 0, 1) := by decide +kernel
theorem dX12_bubble_176 : decode cX12_bubble 176 = .ok (.getfield 171, 3) := by decide +kernel
theorem dX12_bubble_179 : decode cX12_bubble 179 = .ok (.iastore, 1) := by decide +kernel
theorem dX12_bubble_180 : decode cX12_bubble 180 = .ok (.aload_n 0, 1) := by decide +kernel
theorem dX12_bubble_181 : decode cX12_bubble 181 = .ok (.getfield 31, 3) := by decide +kernel
theorem dX12_bubble_184 : decode cX12_bubble 184 = .ok (.aload_n 0, 1) := by decide +kernel
theorem dX12_bubble_185 : decode cX12_bubble 185 = .ok (.getfield 161, 3) := by decide +kernel
theorem dX12_bubble_188 : decode cX12_bubble 188 = .ok (.dup2, 1) := by decide +kernel
theorem dX12_bubble_189 : decode cX12_bubble 189 = .ok (.iaload, 1) := by decide +kernel
theorem dX12_bubble_190 : decode cX12_bubble 190 = .ok (.iconst 1, 1) := by decide +kernel
theorem dX12_bubble_191 : decode cX12_bubble 191 = .ok (.iadd, 1) := by decide +kernel
theorem dX12_bubble_192 : decode cX12_bubble 192 = .ok (.iastore, 1) := by decide +kernel
theorem dX12_bubble_193 : decode cX12_bubble 193 = .ok (.aload_n 0, 1) := by decide +kernel
theorem dX12_bubble_194 : decode cX12_bubble 194 = .ok (.getfield 49, 3) := by decide +kernel
theorem dX12_bubble_197 : decode cX12_bubble 197 = .ok (.aload_n 0, 1) := by decide +kernel
theorem dX12_bubble_198 : decode cX12_bubble 198 = .ok (.getfield 161, 3) := by decide +kernel
theorem dX12_bubble_201 : decode cX12_bubble 201 = .ok (.aload_n 0, 1) := by decide +kernel
theorem dX12_bubble_202 : decode cX12_bubble 202 = .ok (.getfield 49, 3) := by decide +kernel
theorem dX12_bubble_205 : decode cX12_bubble 205 = .ok (.aload_n 0, 1) := by decide +kernel
theorem dX12_bubble_206 : decode cX12_bubble 206 = .ok (.getfield 161, 3) := by decide +kernel
theorem dX12_bubble_209 : decode cX12_bubble 209 = .ok (.iaload, 1) := by decide +kernel
theorem dX12_bubble_210 : decode cX12_bubble 210 = .ok (.aload_n 0, 1) := by decide +kernel
theorem dX12_bubble_211 : decode cX12_bubble 211 = .ok (.invokevirtual 177, 3) := by decide +kernel
theorem dX12_bubble_214 : decode cX12_bubble 214 = .ok (.invokestatic 149, 3) := by decide +kernel
theorem dX12_bubble_217 : decode cX12_bubble 217 = .ok (.iastore, 1) := by decide +kernel
theorem dX12_bubble_218 : decode cX12_bubble 218 = .ok (.return_, 1) := by decide +kernel
theorem dX12_held_0 : decode cX12_held 0 = .ok (.iconst 0, 1) := by decide +kernel
theorem dX12_held_1 : decode cX12_held 1 = .ok (.istore_n 1, 1) := by decide +kernel
theorem dX12_held_2 : decode cX12_held 2 = .ok (.iconst 0, 1) := by decide +kernel
theorem dX12_held_3 : decode cX12_held 3 = .ok (.istore_n 2, 1) := by decide +kernel
theorem dX12_held_4 : decode cX12_held 4 = .ok (.iload_n 2, 1) := by decide +kernel
theorem dX12_held_5 : decode cX12_held 5 = .ok (.iconst 1, 1) := by decide +kernel
theorem dX12_held_6 : decode cX12_held 6 = .ok (.iadd, 1) := by decide +kernel
theorem dX12_held_7 : decode cX12_held 7 = .ok (.aload_n 0, 1) := by decide +kernel
theorem dX12_held_8 : decode cX12_held 8 = .ok (.getfield 31, 3) := by decide +kernel
theorem dX12_held_11 : decode cX12_held 11 = .ok (.aload_n 0, 1) := by decide +kernel
theorem dX12_held_12 : decode cX12_held 12 = .ok (.getfield 161, 3) := by decide +kernel
theorem dX12_held_15 : decode cX12_held 15 = .ok (.iaload, 1) := by decide +kernel
theorem dX12_held_16 : decode cX12_held 16 = .ok (.if_icmp .ge 163, 3) := by decide +kernel
theorem dX12_held_19 : decode cX12_held 19 = .ok (.bipush 24, 2) := by decide +kernel
theorem dX12_held_21 : decode cX12_held 21 = .ok (.aload_n 0, 1) := by decide +kernel
theorem dX12_held_22 : decode cX12_held 22 = .ok (.getfield 161, 3) := by decide +kernel
theorem dX12_held_25 : decode cX12_held 25 = .ok (.imul, 1) := by decide +kernel
theorem dX12_held_26 : decode cX12_held 26 = .ok (.iload_n 2, 1) := by decide +kernel
theorem dX12_held_27 : decode cX12_held 27 = .ok (.iadd, 1) := by decide +kernel
theorem dX12_held_28 : decode cX12_held 28 = .ok (.istore_n 3, 1) := by decide +kernel
theorem dX12_held_29 : decode cX12_held 29 = .ok (.aload_n 0, 1) := by decide +kernel
theorem dX12_held_30 : decode cX12_held 30 = .ok (.getfield 46, 3) := by decide +kernel
theorem dX12_held_33 : decode cX12_held 33 = .ok (.iload_n 3, 1) := by decide +kernel
theorem dX12_held_34 : decode cX12_held 34 = .ok (.iaload, 1) := by decide +kernel
theorem dX12_held_35 : decode cX12_held 35 = .ok (.aload_n 0, 1) := by decide +kernel
theorem dX12_held_36 : decode cX12_held 36 = .ok (.getfield 46, 3) := by decide +kernel
theorem dX12_held_39 : decode cX12_held 39 = .ok (.iload_n 3, 1) := by decide +kernel
theorem dX12_held_40 : decode cX12_held 40 = .ok (.iconst 1, 1) := by decide +kernel
theorem dX12_held_41 : decode cX12_held 41 = .ok (.iadd, 1) := by decide +kernel
theorem dX12_held_42 : decode cX12_held 42 = .ok (.iaload, 1) := by decide +kernel
theorem dX12_held_43 : decode cX12_held 43 = .ok (.if_icmp .eq 6, 3) := by decide +kernel
theorem dX12_held_46 : decode cX12_held 46 = .ok (.goto 127, 3) := by decide +kernel
theorem dX12_held_49 : decode cX12_held 49 = .ok (.iconst 0, 1) := by decide +kernel
theorem dX12_held_50 : decode cX12_held 50 = .ok (.istore 4, 2) := by decide +kernel
theorem dX12_held_52 : decode cX12_held 52 = .ok (.iconst 0, 1) := by decide +kernel
theorem dX12_held_53 : decode cX12_held 53 = .ok (.istore 5, 2) := by decide +kernel
theorem dX12_held_55 : decode cX12_held 55 = .ok (.iload 5, 2) := by decide +kernel
theorem dX12_held_57 : decode cX12_held 57 = .ok (.aload_n 0, 1) := by decide +kernel
theorem dX12_held_58 : decode cX12_held 58 = .ok (.getfield 31, 3) := by decide +kernel
theorem dX12_held_61 : decode cX12_held 61 = .ok (.aload_n 0, 1) := by decide +kernel
theorem dX12_held_62 : decode cX12_held 62 = .ok (.getfield 161, 3) := by decide +kernel
theorem dX12_held_65 : decode cX12_held 65 = .ok (.iaload, 1) := by decide +kernel
theorem dX12_held_66 : decode cX12_held 66 = .ok (.if_icmp .ge 93, 3) := by decide +kernel
theorem dX12_held_69 : decode cX12_held 69 = .ok (.iload 4, 2) := by decide +kernel
theorem dX12_held_71 : decode cX12_held 71 = .ok (.aload_n 0, 1) := by decide +kernel
theorem dX12_held_72 : decode cX12_held 72 = .ok (.aload_n 0, 1) := by decide +kernel
theorem dX12_held_73 : decode cX12_held 73 = .ok (.getfield 40, 3) := by decide +kernel
theorem dX12_held_76 : decode cX12_held 76 = .ok (.bipush 24, 2) := by decide +kernel
theorem dX12_held_78 : decode cX12_held 78 = .ok (.aload_n 0, 1) := by decide +kernel
theorem dX12_held_79 : decode cX12_held 79 = .ok (.getfield 161, 3) := by decide +kernel
theorem dX12_held_82 : decode cX12_held 82 = .ok (.imul, 1) := by decide +kernel
theorem dX12_held_83 : decode cX12_held 83 = .ok (.iload 5, 2) := by decide +kernel
theorem dX12_held_85 : decode cX12_held 85 = .ok (.iadd, 1) := by decide +kernel
theorem dX12_held_86 : decode cX12_held 86 = .ok (.iaload, 1) := by decide +kernel
theorem dX12_held_87 : decode cX12_held 87 = .ok (.invokevirtual 145, 3) := by decide +kernel
theorem dX12_held_90 : decode cX12_held 90 = .ok (.aload_n 0, 1) := by decide +kernel
theorem dX12_held_91 : decode cX12_held 91 = .ok (.aload_n 0, 1) := by decide +kernel
theorem dX12_held_92 : decode cX12_held 92 = .ok (.getfield 43, 3) := by decide +kernel
theorem dX12_held_95 : decode cX12_held 95 = .ok (.iload_n 3, 1) := by decide +kernel
theorem dX12_held_96 : decode cX12_held 96 = .ok (.iaload, 1) := by decide +kernel
theorem dX12_held_97 : decode cX12_held 97 = .ok (.invokevirtual 145, 3) := by decide +kernel
theorem dX12_held_100 : decode cX12_held 100 = .ok (.if_icmp .ne 7, 3) := by decide +kernel
theorem dX12_held_103 : decode cX12_held 103 = .ok (.iconst 1, 1) := by decide +kernel
theorem dX12_held_104 : decode cX12_held 104 = .ok (.goto 4, 3) := by decide +kernel
theorem dX12_held_107 : decode cX12_held 107 = .ok (.iconst 0, 1) := by decide +kernel
theorem dX12_held_108 : decode cX12_held 108 = .ok (.iadd, 1) := by decide +kernel
theorem dX12_held_109 : decode cX12_held 109 = .ok (.istore 4, 2) := by decide +kernel
theorem dX12_held_111 : decode cX12_held 111 = .ok (.iload 4, 2) := by decide +kernel
theorem dX12_held_113 : decode cX12_held 113 = .ok (.aload_n 0, 1) := by decide +kernel
theorem dX12_held_114 : decode cX12_held 114 = .ok (.aload_n 0, 1) := by decide +kernel
theorem dX12_held_115 : decode cX12_held 115 = .ok (.getfield 43, 3) := by decide +kernel
theorem dX12_held_118 : decode cX12_held 118 = .ok (.bipush 24, 2) := by decide +kernel
theorem dX12_held_120 : decode cX12_held 120 = .ok (.aload_n 0, 1) := by decide +kernel
theorem dX12_held_121 : decode cX12_held 121 = .ok (.getfield 161, 3) := by decide +kernel
theorem dX12_held_124 : decode cX12_held 124 = .ok (.imul, 1) := by decide +kernel
theorem dX12_held_125 : decode cX12_held 125 = .ok (.iload 5, 2) := by decide +kernel
theorem dX12_held_127 : decode cX12_held 127 = .ok (.iadd, 1) := by decide +kernel
theorem dX12_held_128 : decode cX12_held 128 = .ok (.iaload, 1) := by decide +kernel
theorem dX12_held_129 : decode cX12_held 129 = .ok (.invokevirtual 145, 3) := by decide +kernel
theorem dX12_held_132 : decode cX12_held 132 = .ok (.aload_n 0, 1) := by decide +kernel
theorem dX12_held_133 : decode cX12_held 133 = .ok (.aload_n 0, 1) := by decide +kernel
theorem dX12_held_134 : decode cX12_held 134 = .ok (.getfield 43, 3) := by decide +kernel
theorem dX12_held_137 : decode cX12_held 137 = .ok (.iload_n 3, 1) := by decide +kernel
theorem dX12_held_138 : decode cX12_held 138 = .ok (.iaload, 1) := by decide +kernel
theorem dX12_held_139 : decode cX12_held 139 = .ok (.invokevirtual 145, 3) := by decide +kernel
theorem dX12_held_142 : decode cX12_held 142 = .ok (.if_icmp .ne 7, 3) := by decide +kernel
theorem dX12_held_145 : decode cX12_held 145 = .ok (.iconst 1, 1) := by decide +kernel
theorem dX12_held_146 : decode cX12_held 146 = .ok (.goto 4, 3) := by decide +kernel
theorem dX12_held_149 : decode cX12_held 149 = .ok (.iconst 0, 1) := by decide +kernel
theorem dX12_held_150 : decode cX12_held 150 = .ok (.iadd, 1) := by decide +kernel
theorem dX12_held_151 : decode cX12_held 151 = .ok (.istore 4, 2) := by decide +kernel
theorem dX12_held_153 : decode cX12_held 153 = .ok (.iinc 5 1, 3) := by decide +kernel
theorem dX12_held_156 : decode cX12_held 156 = .ok (.goto (-101), 3) := by decide +kernel
theorem dX12_held_159 : decode cX12_held 159 = .ok (.iload_n 1, 1) := by decide +kernel
theorem dX12_held_160 : decode cX12_held 160 = .ok (.iload 4, 2) := by decide +kernel
theorem dX12_held_162 : decode cX12_held 162 = .ok (.iconst 3, 1) := by decide +kernel
theorem dX12_held_163 : decode cX12_held 163 = .ok (.if_icmp .ge 7, 3) := by decide +kernel
theorem dX12_held_166 : decode cX12_held 166 = .ok (.iconst 1, 1) := by decide +kernel
theorem dX12_held_167 : decode cX12_held 167 = .ok (.goto 4, 3) := by decide +kernel
theorem dX12_held_170 : decode cX12_held 170 = .ok (.iconst 0, 1) := by decide +kernel
theorem dX12_held_171 : decode cX12_held 171 = .ok (.iadd, 1) := by decide +kernel
theorem dX12_held_172 : decode cX12_held 172 = .ok (.istore_n 1, 1) := by decide +kernel
theorem dX12_held_173 : decode cX12_held 173 = .ok (.iinc 2 1, 3) := by decide +kernel
theorem dX12_held_176 : decode cX12_held 176 = .ok (.goto (-172), 3) := by decide +kernel
theorem dX12_held_179 : decode cX12_held 179 = .ok (.iload_n 1, 1) := by decide +kernel
theorem dX12_held_180 : decode cX12_held 180 = .ok (.ireturn, 1) := by decide +kernel
theorem dX12_moves_0 : decode cX12_moves 0 = .ok (.iconst 0, 1) := by decide +kernel
theorem dX12_moves_1 : decode cX12_moves 1 = .ok (.istore_n 1, 1) := by decide +kernel
theorem dX12_moves_2 : decode cX12_moves 2 = .ok (.iconst 1, 1) := by decide +kernel
theorem dX12_moves_3 : decode cX12_moves 3 = .ok (.istore_n 2, 1) := by decide +kernel
theorem dX12_moves_4 : decode cX12_moves 4 = .ok (.iload_n 2, 1) := by decide +kernel
theorem dX12_moves_5 : decode cX12_moves 5 = .ok (.ifCond .eq 131, 3) := by decide +kernel
theorem dX12_moves_8 : decode cX12_moves 8 = .ok (.aload_n 0, 1) := by decide +kernel
theorem dX12_moves_9 : decode cX12_moves 9 = .ok (.getfield 142, 3) := by decide +kernel
theorem dX12_moves_12 : decode cX12_moves 12 = .ok (.iconst (-1), 1) := by decide +kernel
theorem dX12_moves_13 : decode cX12_moves 13 = .ok (.if_icmp .ne 123, 3) := by decide +kernel
theorem dX12_moves_16 : decode cX12_moves 16 = .ok (.aload_n 0, 1) := by decide +kernel
theorem dX12_moves_17 : decode cX12_moves 17 = .ok (.invokevirtual 180, 3) := by decide +kernel
theorem dX12_moves_20 : decode cX12_moves 20 = .ok (.istore_n 3, 1) := by decide +kernel
theorem dX12_moves_21 : decode cX12_moves 21 = .ok (.iload_n 3, 1) := by decide +kernel
theorem dX12_moves_22 : decode cX12_moves 22 = .ok (.invokestatic 167, 3) := by decide +kernel
theorem dX12_moves_25 : decode cX12_moves 25 = .ok (.ifCond .eq 10, 3) := by decide +kernel
theorem dX12_moves_28 : decode cX12_moves 28 = .ok (.aload_n 0, 1) := by decide +kernel
theorem dX12_moves_29 : decode cX12_moves 29 = .ok (.invokevirtual 183, 3) := by decide +kernel
theorem dX12_moves_32 : decode cX12_moves 32 = .ok (.goto 89, 3) := by decide +kernel
theorem dX12_moves_35 : decode cX12_moves 35 = .ok (.iload_n 3, 1) := by decide +kernel
theorem dX12_moves_36 : decode cX12_moves 36 = .ok (.bipush 97, 2) := by decide +kernel
theorem dX12_moves_38 : decode cX12_moves 38 = .ok (.if_icmp .lt 68, 3) := by decide +kernel
theorem dX12_moves_41 : decode cX12_moves 41 = .ok (.iload_n 3, 1) := by decide +kernel
theorem dX12_moves_42 : decode cX12_moves 42 = .ok (.bipush 104, 2) := by decide +kernel
theorem dX12_moves_44 : decode cX12_moves 44 = .ok (.if_icmp .gt 62, 3) := by decide +kernel
theorem dX12_moves_47 : decode cX12_moves 47 = .ok (.aload_n 0, 1) := by decide +kernel
theorem dX12_moves_48 : decode cX12_moves 48 = .ok (.dup, 1) := by decide +kernel
theorem dX12_moves_49 : decode cX12_moves 49 = .ok (.getfield 135, 3) := by decide +kernel
theorem dX12_moves_52 : decode cX12_moves 52 = .ok (.iconst 1, 1) := by decide +kernel
theorem dX12_moves_53 : decode cX12_moves 53 = .ok (.iadd, 1) := by decide +kernel
theorem dX12_moves_54 : decode cX12_moves 54 = .ok (.putfield 135, 3) := by decide +kernel
theorem dX12_moves_57 : decode cX12_moves 57 = .ok (.aload_n 0, 1) := by decide +kernel
theorem dX12_moves_58 : decode cX12_moves 58 = .ok (.getfield 55, 3) := by decide +kernel
theorem dX12_moves_61 : decode cX12_moves 61 = .ok (.iload_n 3, 1) := by decide +kernel
theorem dX12_moves_62 : decode cX12_moves 62 = .ok (.bipush 97, 2) := by decide +kernel
theorem dX12_moves_64 : decode cX12_moves 64 = .ok (.isub, 1) := by decide +kernel
theorem dX12_moves_65 : decode cX12_moves 65 = .ok (.iaload, 1) := by decide +kernel
theorem dX12_moves_66 : decode cX12_moves 66 = .ok (.iconst (-1), 1) := by decide +kernel
theorem dX12_moves_67 : decode cX12_moves 67 = .ok (.if_icmp .ne 19, 3) := by decide +kernel
theorem dX12_moves_70 : decode cX12_moves 70 = .ok (.aload_n 0, 1) := by decide +kernel
theorem dX12_moves_71 : decode cX12_moves 71 = .ok (.getfield 55, 3) := by decide +kernel
theorem dX12_moves_74 : decode cX12_moves 74 = .ok (.iload_n 3, 1) := by decide +kernel
theorem dX12_moves_75 : decode cX12_moves 75 = .ok (.bipush 97, 2) := by decide +kernel
theorem dX12_moves_77 : decode cX12_moves 77 = .ok (.isub, 1) := by decide +kernel
theorem dX12_moves_78 : decode cX12_moves 78 = .ok (.aload_n 0, 1) := by decide +kernel
theorem dX12_moves_79 : decode cX12_moves 79 = .ok (.getfield 171, 3) := by decide +kernel
theorem dX12_moves_82 : decode cX12_moves 82 = .ok (.iastore, 1) := by decide +kernel
theorem dX12_moves_83 : decode cX12_moves 83 = .ok (.goto 38, 3) := by decide +kernel
theorem dX12_moves_86 : decode cX12_moves 86 = .ok (.aload_n 0, 1) := by decide +kernel
theorem dX12_moves_87 : decode cX12_moves 87 = .ok (.aload_n 0, 1) := by decide +kernel
theorem dX12_moves_88 : decode cX12_moves 88 = .ok (.getfield 55, 3) := by decide +kernel
theorem dX12_moves_91 : decode cX12_moves 91 = .ok (.iload_n 3, 1) := by decide +kernel
theorem dX12_moves_92 : decode cX12_moves 92 = .ok (.bipush 97, 2) := by decide +kernel
theorem dX12_moves_94 : decode cX12_moves 94 = .ok (.isub, 1) := by decide +kernel
theorem dX12_moves_95 : decode cX12_moves 95 = .ok (.iaload, 1) := by decide +kernel
theorem dX12_moves_96 : decode cX12_moves 96 = .ok (.aload_n 0, 1) := by decide +kernel
theorem dX12_moves_97 : decode cX12_moves 97 = .ok (.getfield 171, 3) := by decide +kernel
theorem dX12_moves_100 : decode cX12_moves 100 = .ok (.invokevirtual 186, 3) := by decide +kernel
theorem dX12_moves_103 : decode cX12_moves 103 = .ok (.goto 18, 3) := by decide +kernel
theorem dX12_moves_106 : decode cX12_moves 106 = .ok (.iload_n 3, 1) := by decide +kernel
theorem dX12_moves_107 : decode cX12_moves 107 = .ok (.bipush 40, 2) := by decide +kernel
theorem dX12_moves_109 : decode cX12_moves 109 = .ok (.if_icmp .ne 10, 3) := by decide +kernel
theorem dX12_moves_112 : decode cX12_moves 112 = .ok (.aload_n 0, 1) := by decide +kernel
theorem dX12_moves_113 : decode cX12_moves 113 = .ok (.invokevirtual 190, 3) := by decide +kernel
theorem dX12_moves_116 : decode cX12_moves 116 = .ok (.goto 5, 3) := by decide +kernel
theorem dX12_moves_119 : decode cX12_moves 119 = .ok (.iconst 0, 1) := by decide +kernel
theorem dX12_moves_120 : decode cX12_moves 120 = .ok (.istore_n 2, 1) := by decide +kernel
theorem dX12_moves_121 : decode cX12_moves 121 = .ok (.iload_n 1, 1) := by decide +kernel
theorem dX12_moves_122 : decode cX12_moves 122 = .ok (.iload_n 2, 1) := by decide +kernel
theorem dX12_moves_123 : decode cX12_moves 123 = .ok (.ifCond .eq 7, 3) := by decide +kernel
theorem dX12_moves_126 : decode cX12_moves 126 = .ok (.iconst 1, 1) := by decide +kernel
theorem dX12_moves_127 : decode cX12_moves 127 = .ok (.goto 4, 3) := by decide +kernel
theorem dX12_moves_130 : decode cX12_moves 130 = .ok (.iconst 0, 1) := by decide +kernel
theorem dX12_moves_131 : decode cX12_moves 131 = .ok (.iadd, 1) := by decide +kernel
theorem dX12_moves_132 : decode cX12_moves 132 = .ok (.istore_n 1, 1) := by decide +kernel
theorem dX12_moves_133 : decode cX12_moves 133 = .ok (.goto (-129), 3) := by decide +kernel
theorem dX12_moves_136 : decode cX12_moves 136 = .ok (.iload_n 1, 1) := by decide +kernel
theorem dX12_moves_137 : decode cX12_moves 137 = .ok (.ifCond .ne 7, 3) := by decide +kernel
theorem dX12_moves_140 : decode cX12_moves 140 = .ok (.aload_n 0, 1) := by decide +kernel
theorem dX12_moves_141 : decode cX12_moves 141 = .ok (.invokevirtual 164, 3) := by decide +kernel
theorem dX12_moves_144 : decode cX12_moves 144 = .ok (.return_, 1) := by decide +kernel
theorem dX12_nested_0 : decode cX12_nested 0 = .ok (.aload_n 0, 1) := by decide +kernel
theorem dX12_nested_1 : decode cX12_nested 1 = .ok (.getfield 193, 3) := by decide +kernel
theorem dX12_nested_4 : decode cX12_nested 4 = .ok (.bipush 6, 2) := by decide +kernel
theorem dX12_nested_6 : decode cX12_nested 6 = .ok (.if_icmp .ne 8, 3) := by decide +kernel
theorem dX12_nested_9 : decode cX12_nested 9 = .ok (.aload_n 0, 1) := by decide +kernel
theorem dX12_nested_10 : decode cX12_nested 10 = .ok (.invokevirtual 164, 3) := by decide +kernel
theorem dX12_nested_13 : decode cX12_nested 13 = .ok (.return_, 1) := by decide +kernel
theorem dX12_nested_14 : decode cX12_nested 14 = .ok (.aload_n 0, 1) := by decide +kernel
theorem dX12_nested_15 : decode cX12_nested 15 = .ok (.dup, 1) := by decide +kernel
theorem dX12_nested_16 : decode cX12_nested 16 = .ok (.getfield 193, 3) := by decide +kernel
theorem dX12_nested_19 : decode cX12_nested 19 = .ok (.iconst 1, 1) := by decide +kernel
theorem dX12_nested_20 : decode cX12_nested 20 = .ok (.iadd, 1) := by decide +kernel
theorem dX12_nested_21 : decode cX12_nested 21 = .ok (.putfield 193, 3) := by decide +kernel
theorem dX12_nested_24 : decode cX12_nested 24 = .ok (.aload_n 0, 1) := by decide +kernel
theorem dX12_nested_25 : decode cX12_nested 25 = .ok (.dup, 1) := by decide +kernel
theorem dX12_nested_26 : decode cX12_nested 26 = .ok (.getfield 135, 3) := by decide +kernel
theorem dX12_nested_29 : decode cX12_nested 29 = .ok (.iconst 1, 1) := by decide +kernel
theorem dX12_nested_30 : decode cX12_nested 30 = .ok (.iadd, 1) := by decide +kernel
theorem dX12_nested_31 : decode cX12_nested 31 = .ok (.putfield 135, 3) := by decide +kernel
theorem dX12_nested_34 : decode cX12_nested 34 = .ok (.aload_n 0, 1) := by decide +kernel
theorem dX12_nested_35 : decode cX12_nested 35 = .ok (.getfield 171, 3) := by decide +kernel
theorem dX12_nested_38 : decode cX12_nested 38 = .ok (.istore_n 1, 1) := by decide +kernel
theorem dX12_nested_39 : decode cX12_nested 39 = .ok (.aload_n 0, 1) := by decide +kernel
theorem dX12_nested_40 : decode cX12_nested 40 = .ok (.invokevirtual 196, 3) := by decide +kernel
theorem dX12_nested_43 : decode cX12_nested 43 = .ok (.aload_n 0, 1) := by decide +kernel
theorem dX12_nested_44 : decode cX12_nested 44 = .ok (.getfield 142, 3) := by decide +kernel
theorem dX12_nested_47 : decode cX12_nested 47 = .ok (.iconst (-1), 1) := by decide +kernel
theorem dX12_nested_48 : decode cX12_nested 48 = .ok (.if_icmp .ne 16, 3) := by decide +kernel
theorem dX12_nested_51 : decode cX12_nested 51 = .ok (.aload_n 0, 1) := by decide +kernel
theorem dX12_nested_52 : decode cX12_nested 52 = .ok (.invokevirtual 180, 3) := by decide +kernel
theorem dX12_nested_55 : decode cX12_nested 55 = .ok (.bipush 41, 2) := by decide +kernel
theorem dX12_nested_57 : decode cX12_nested 57 = .ok (.if_icmp .eq 7, 3) := by decide +kernel
theorem dX12_nested_60 : decode cX12_nested 60 = .ok (.aload_n 0, 1) := by decide +kernel
theorem dX12_nested_61 : decode cX12_nested 61 = .ok (.invokevirtual 164, 3) := by decide +kernel
theorem dX12_nested_64 : decode cX12_nested 64 = .ok (.aload_n 0, 1) := by decide +kernel
theorem dX12_nested_65 : decode cX12_nested 65 = .ok (.dup, 1) := by decide +kernel
theorem dX12_nested_66 : decode cX12_nested 66 = .ok (.getfield 135, 3) := by decide +kernel
theorem dX12_nested_69 : decode cX12_nested 69 = .ok (.iconst 1, 1) := by decide +kernel
theorem dX12_nested_70 : decode cX12_nested 70 = .ok (.iadd, 1) := by decide +kernel
theorem dX12_nested_71 : decode cX12_nested 71 = .ok (.putfield 135, 3) := by decide +kernel
theorem dX12_nested_74 : decode cX12_nested 74 = .ok (.aload_n 0, 1) := by decide +kernel
theorem dX12_nested_75 : decode cX12_nested 75 = .ok (.dup, 1) := by decide +kernel
theorem dX12_nested_76 : decode cX12_nested 76 = .ok (.getfield 193, 3) := by decide +kernel
theorem dX12_nested_79 : decode cX12_nested 79 = .ok (.iconst 1, 1) := by decide +kernel
theorem dX12_nested_80 : decode cX12_nested 80 = .ok (.isub, 1) := by decide +kernel
theorem dX12_nested_81 : decode cX12_nested 81 = .ok (.putfield 193, 3) := by decide +kernel
theorem dX12_nested_84 : decode cX12_nested 84 = .ok (.aload_n 0, 1) := by decide +kernel
theorem dX12_nested_85 : decode cX12_nested 85 = .ok (.getfield 142, 3) := by decide +kernel
theorem dX12_nested_88 : decode cX12_nested 88 = .ok (.iconst (-1), 1) := by decide +kernel
theorem dX12_nested_89 : decode cX12_nested 89 = .ok (.if_icmp .ne 12, 3) := by decide +kernel
theorem dX12_nested_92 : decode cX12_nested 92 = .ok (.aload_n 0, 1) := by decide +kernel
theorem dX12_nested_93 : decode cX12_nested 93 = .ok (.iload_n 1, 1) := by decide +kernel
theorem dX12_nested_94 : decode cX12_nested 94 = .ok (.aload_n 0, 1) := by decide +kernel
theorem dX12_nested_95 : decode cX12_nested 95 = .ok (.getfield 171, 3) := by decide +kernel
theorem dX12_nested_98 : decode cX12_nested 98 = .ok (.invokevirtual 186, 3) := by decide +kernel
theorem dX12_nested_101 : decode cX12_nested 101 = .ok (.return_, 1) := by decide +kernel
theorem dX12_balloon_0 : decode cX12_balloon 0 = .ok (.aload_n 0, 1) := by decide +kernel
theorem dX12_balloon_1 : decode cX12_balloon 1 = .ok (.invokevirtual 180, 3) := by decide +kernel
theorem dX12_balloon_4 : decode cX12_balloon 4 = .ok (.bipush 35, 2) := by decide +kernel
theorem dX12_balloon_6 : decode cX12_balloon 6 = .ok (.if_icmp .eq 8, 3) := by decide +kernel
theorem dX12_balloon_9 : decode cX12_balloon 9 = .ok (.aload_n 0, 1) := by decide +kernel
theorem dX12_balloon_10 : decode cX12_balloon 10 = .ok (.invokevirtual 164, 3) := by decide +kernel
theorem dX12_balloon_13 : decode cX12_balloon 13 = .ok (.return_, 1) := by decide +kernel
theorem dX12_balloon_14 : decode cX12_balloon 14 = .ok (.aload_n 0, 1) := by decide +kernel
theorem dX12_balloon_15 : decode cX12_balloon 15 = .ok (.dup, 1) := by decide +kernel
theorem dX12_balloon_16 : decode cX12_balloon 16 = .ok (.getfield 135, 3) := by decide +kernel
theorem dX12_balloon_19 : decode cX12_balloon 19 = .ok (.iconst 1, 1) := by decide +kernel
theorem dX12_balloon_20 : decode cX12_balloon 20 = .ok (.iadd, 1) := by decide +kernel
theorem dX12_balloon_21 : decode cX12_balloon 21 = .ok (.putfield 135, 3) := by decide +kernel
theorem dX12_balloon_24 : decode cX12_balloon 24 = .ok (.aload_n 0, 1) := by decide +kernel
theorem dX12_balloon_25 : decode cX12_balloon 25 = .ok (.invokevirtual 180, 3) := by decide +kernel
theorem dX12_balloon_28 : decode cX12_balloon 28 = .ok (.istore_n 1, 1) := by decide +kernel
theorem dX12_balloon_29 : decode cX12_balloon 29 = .ok (.iload_n 1, 1) := by decide +kernel
theorem dX12_balloon_30 : decode cX12_balloon 30 = .ok (.invokestatic 167, 3) := by decide +kernel
theorem dX12_balloon_33 : decode cX12_balloon 33 = .ok (.ifCond .eq 14, 3) := by decide +kernel
theorem dX12_balloon_36 : decode cX12_balloon 36 = .ok (.iload_n 1, 1) := by decide +kernel
theorem dX12_balloon_37 : decode cX12_balloon 37 = .ok (.bipush 48, 2) := by decide +kernel
theorem dX12_balloon_39 : decode cX12_balloon 39 = .ok (.isub, 1) := by decide +kernel
theorem dX12_balloon_40 : decode cX12_balloon 40 = .ok (.aload_n 0, 1) := by decide +kernel
theorem dX12_balloon_41 : decode cX12_balloon 41 = .ok (.getfield 125, 3) := by decide +kernel
theorem dX12_balloon_44 : decode cX12_balloon 44 = .ok (.if_icmp .lt 8, 3) := by decide +kernel
theorem dX12_balloon_47 : decode cX12_balloon 47 = .ok (.aload_n 0, 1) := by decide +kernel
theorem dX12_balloon_48 : decode cX12_balloon 48 = .ok (.invokevirtual 164, 3) := by decide +kernel
theorem dX12_balloon_51 : decode cX12_balloon 51 = .ok (.return_, 1) := by decide +kernel
theorem dX12_balloon_52 : decode cX12_balloon 52 = .ok (.aload_n 0, 1) := by decide +kernel
theorem dX12_balloon_53 : decode cX12_balloon 53 = .ok (.dup, 1) := by decide +kernel
theorem dX12_balloon_54 : decode cX12_balloon 54 = .ok (.getfield 135, 3) := by decide +kernel
theorem dX12_balloon_57 : decode cX12_balloon 57 = .ok (.iconst 1, 1) := by decide +kernel
theorem dX12_balloon_58 : decode cX12_balloon 58 = .ok (.iadd, 1) := by decide +kernel
theorem dX12_balloon_59 : decode cX12_balloon 59 = .ok (.putfield 135, 3) := by decide +kernel
theorem dX12_balloon_62 : decode cX12_balloon 62 = .ok (.aload_n 0, 1) := by decide +kernel
theorem dX12_balloon_63 : decode cX12_balloon 63 = .ok (.getfield 28, 3) := by decide +kernel
theorem dX12_balloon_66 : decode cX12_balloon 66 = .ok (.bipush 6, 2) := by decide +kernel
theorem dX12_balloon_68 : decode cX12_balloon 68 = .ok (.aload_n 0, 1) := by decide +kernel
theorem dX12_balloon_69 : decode cX12_balloon 69 = .ok (.getfield 161, 3) := by decide +kernel
theorem dX12_balloon_72 : decode cX12_balloon 72 = .ok (.imul, 1) := by decide +kernel
theorem dX12_balloon_73 : decode cX12_balloon 73 = .ok (.aload_n 0, 1) := by decide +kernel
theorem dX12_balloon_74 : decode cX12_balloon 74 = .ok (.getfield 25, 3) := by decide +kernel
theorem dX12_balloon_77 : decode cX12_balloon 77 = .ok (.aload_n 0, 1) := by decide +kernel
theorem dX12_balloon_78 : decode cX12_balloon 78 = .ok (.getfield 161, 3) := by decide +kernel
theorem dX12_balloon_81 : decode cX12_balloon 81 = .ok (.iaload, 1) := by decide +kernel
theorem dX12_balloon_82 : decode cX12_balloon 82 = .ok (.iadd, 1) := by decide +kernel
theorem dX12_balloon_83 : decode cX12_balloon 83 = .ok (.iload_n 1, 1) := by decide +kernel
theorem dX12_balloon_84 : decode cX12_balloon 84 = .ok (.bipush 48, 2) := by decide +kernel
theorem dX12_balloon_86 : decode cX12_balloon 86 = .ok (.isub, 1) := by decide +kernel
theorem dX12_balloon_87 : decode cX12_balloon 87 = .ok (.iastore, 1) := by decide +kernel
theorem dX12_balloon_88 : decode cX12_balloon 88 = .ok (.aload_n 0, 1) := by decide +kernel
theorem dX12_balloon_89 : decode cX12_balloon 89 = .ok (.getfield 25, 3) := by decide +kernel
theorem dX12_balloon_92 : decode cX12_balloon 92 = .ok (.aload_n 0, 1) := by decide +kernel
theorem dX12_balloon_93 : decode cX12_balloon 93 = .ok (.getfield 161, 3) := by decide +kernel
theorem dX12_balloon_96 : decode cX12_balloon 96 = .ok (.dup2, 1) := by decide +kernel
theorem dX12_balloon_97 : decode cX12_balloon 97 = .ok (.iaload, 1) := by decide +kernel
theorem dX12_balloon_98 : decode cX12_balloon 98 = .ok (.iconst 1, 1) := by decide +kernel
theorem dX12_balloon_99 : decode cX12_balloon 99 = .ok (.iadd, 1) := by decide +kernel
theorem dX12_balloon_100 : decode cX12_balloon 100 = .ok (.iastore, 1) := by decide +kernel
theorem dX12_balloon_101 : decode cX12_balloon 101 = .ok (.aload_n 0, 1) := by decide +kernel
theorem dX12_balloon_102 : decode cX12_balloon 102 = .ok (.aload_n 0, 1) := by decide +kernel
theorem dX12_balloon_103 : decode cX12_balloon 103 = .ok (.invokevirtual 174, 3) := by decide +kernel
theorem dX12_balloon_106 : decode cX12_balloon 106 = .ok (.putfield 171, 3) := by decide +kernel
theorem dX12_balloon_109 : decode cX12_balloon 109 = .ok (.aload_n 0, 1) := by decide +kernel
theorem dX12_balloon_110 : decode cX12_balloon 110 = .ok (.invokevirtual 196, 3) := by decide +kernel
theorem dX12_balloon_113 : decode cX12_balloon 113 = .ok (.return_, 1) := by decide +kernel
theorem dX12_readFigure_0 : decode cX12_readFigure 0 = .ok (.aload_n 0, 1) := by decide +kernel
theorem dX12_readFigure_1 : decode cX12_readFigure 1 = .ok (.iload_n 1, 1) := by decide +kernel
theorem dX12_readFigure_2 : decode cX12_readFigure 2 = .ok (.putfield 161, 3) := by decide +kernel
theorem dX12_readFigure_5 : decode cX12_readFigure 5 = .ok (.aload_n 0, 1) := by decide +kernel
theorem dX12_readFigure_6 : decode cX12_readFigure 6 = .ok (.iconst 0, 1) := by decide +kernel
theorem dX12_readFigure_7 : decode cX12_readFigure 7 = .ok (.putfield 135, 3) := by decide +kernel
theorem dX12_readFigure_10 : decode cX12_readFigure 10 = .ok (.aload_n 0, 1) := by decide +kernel
theorem dX12_readFigure_11 : decode cX12_readFigure 11 = .ok (.iconst (-1), 1) := by decide +kernel
theorem dX12_readFigure_12 : decode cX12_readFigure 12 = .ok (.putfield 142, 3) := by decide +kernel
theorem dX12_readFigure_15 : decode cX12_readFigure 15 = .ok (.aload_n 0, 1) := by decide +kernel
theorem dX12_readFigure_16 : decode cX12_readFigure 16 = .ok (.iconst 0, 1) := by decide +kernel
theorem dX12_readFigure_17 : decode cX12_readFigure 17 = .ok (.putfield 193, 3) := by decide +kernel
theorem dX12_readFigure_20 : decode cX12_readFigure 20 = .ok (.aload_n 0, 1) := by decide +kernel
theorem dX12_readFigure_21 : decode cX12_readFigure 21 = .ok (.iconst 0, 1) := by decide +kernel
theorem dX12_readFigure_22 : decode cX12_readFigure 22 = .ok (.putfield 158, 3) := by decide +kernel
theorem dX12_readFigure_25 : decode cX12_readFigure 25 = .ok (.aload_n 0, 1) := by decide +kernel
theorem dX12_readFigure_26 : decode cX12_readFigure 26 = .ok (.getfield 25, 3) := by decide +kernel
theorem dX12_readFigure_29 : decode cX12_readFigure 29 = .ok (.aload_n 0, 1) := by decide +kernel
theorem dX12_readFigure_30 : decode cX12_readFigure 30 = .ok (.getfield 161, 3) := by decide +kernel
theorem dX12_readFigure_33 : decode cX12_readFigure 33 = .ok (.iconst 0, 1) := by decide +kernel
theorem dX12_readFigure_34 : decode cX12_readFigure 34 = .ok (.iastore, 1) := by decide +kernel
theorem dX12_readFigure_35 : decode cX12_readFigure 35 = .ok (.aload_n 0, 1) := by decide +kernel
theorem dX12_readFigure_36 : decode cX12_readFigure 36 = .ok (.getfield 31, 3) := by decide +kernel
theorem dX12_readFigure_39 : decode cX12_readFigure 39 = .ok (.aload_n 0, 1) := by decide +kernel
theorem dX12_readFigure_40 : decode cX12_readFigure 40 = .ok (.getfield 161, 3) := by decide +kernel
theorem dX12_readFigure_43 : decode cX12_readFigure 43 = .ok (.iconst 0, 1) := by decide +kernel
theorem dX12_readFigure_44 : decode cX12_readFigure 44 = .ok (.iastore, 1) := by decide +kernel
theorem dX12_readFigure_45 : decode cX12_readFigure 45 = .ok (.aload_n 0, 1) := by decide +kernel
theorem dX12_readFigure_46 : decode cX12_readFigure 46 = .ok (.getfield 49, 3) := by decide +kernel
theorem dX12_readFigure_49 : decode cX12_readFigure 49 = .ok (.aload_n 0, 1) := by decide +kernel
theorem dX12_readFigure_50 : decode cX12_readFigure 50 = .ok (.getfield 161, 3) := by decide +kernel
theorem dX12_readFigure_53 : decode cX12_readFigure 53 = .ok (.iconst 0, 1) := by decide +kernel
theorem dX12_readFigure_54 : decode cX12_readFigure 54 = .ok (.iastore, 1) := by decide +kernel
theorem dX12_readFigure_55 : decode cX12_readFigure 55 = .ok (.iconst 0, 1) := by decide +kernel
theorem dX12_readFigure_56 : decode cX12_readFigure 56 = .ok (.istore_n 2, 1) := by decide +kernel
theorem dX12_readFigure_57 : decode cX12_readFigure 57 = .ok (.iload_n 2, 1) := by decide +kernel
theorem dX12_readFigure_58 : decode cX12_readFigure 58 = .ok (.bipush 8, 2) := by decide +kernel
theorem dX12_readFigure_60 : decode cX12_readFigure 60 = .ok (.if_icmp .ge 16, 3) := by decide +kernel
theorem dX12_readFigure_63 : decode cX12_readFigure 63 = .ok (.aload_n 0, 1) := by decide +kernel
theorem dX12_readFigure_64 : decode cX12_readFigure 64 = .ok (.getfield 55, 3) := by decide +kernel
theorem dX12_readFigure_67 : decode cX12_readFigure 67 = .ok (.iload_n 2, 1) := by decide +kernel
theorem dX12_readFigure_68 : decode cX12_readFigure 68 = .ok (.iconst (-1), 1) := by decide +kernel
theorem dX12_readFigure_69 : decode cX12_readFigure 69 = .ok (.iastore, 1) := by decide +kernel
theorem dX12_readFigure_70 : decode cX12_readFigure 70 = .ok (.iinc 2 1, 3) := by decide +kernel
theorem dX12_readFigure_73 : decode cX12_readFigure 73 = .ok (.goto (-16), 3) := by decide +kernel
theorem dX12_readFigure_76 : decode cX12_readFigure 76 = .ok (.aload_n 0, 1) := by decide +kernel
theorem dX12_readFigure_77 : decode cX12_readFigure 77 = .ok (.invokevirtual 199, 3) := by decide +kernel
theorem dX12_readFigure_80 : decode cX12_readFigure 80 = .ok (.aload_n 0, 1) := by decide +kernel
theorem dX12_readFigure_81 : decode cX12_readFigure 81 = .ok (.getfield 142, 3) := by decide +kernel
theorem dX12_readFigure_84 : decode cX12_readFigure 84 = .ok (.iconst (-1), 1) := by decide +kernel
theorem dX12_readFigure_85 : decode cX12_readFigure 85 = .ok (.if_icmp .ne 43, 3) := by decide +kernel
theorem dX12_readFigure_88 : decode cX12_readFigure 88 = .ok (.aload_n 0, 1) := by decide +kernel
theorem dX12_readFigure_89 : decode cX12_readFigure 89 = .ok (.invokevirtual 180, 3) := by decide +kernel
theorem dX12_readFigure_92 : decode cX12_readFigure 92 = .ok (.bipush 47, 2) := by decide +kernel
theorem dX12_readFigure_94 : decode cX12_readFigure 94 = .ok (.if_icmp .ne 34, 3) := by decide +kernel
theorem dX12_readFigure_97 : decode cX12_readFigure 97 = .ok (.aload_n 0, 1) := by decide +kernel
theorem dX12_readFigure_98 : decode cX12_readFigure 98 = .ok (.getfield 25, 3) := by decide +kernel
theorem dX12_readFigure_101 : decode cX12_readFigure 101 = .ok (.aload_n 0, 1) := by decide +kernel
theorem dX12_readFigure_102 : decode cX12_readFigure 102 = .ok (.getfield 161, 3) := by decide +kernel
theorem dX12_readFigure_105 : decode cX12_readFigure 105 = .ok (.iaload, 1) := by decide +kernel
theorem dX12_readFigure_106 : decode cX12_readFigure 106 = .ok (.bipush 6, 2) := by decide +kernel
theorem dX12_readFigure_108 : decode cX12_readFigure 108 = .ok (.if_icmp .ge 20, 3) := by decide +kernel
theorem dX12_readFigure_111 : decode cX12_readFigure 111 = .ok (.aload_n 0, 1) := by decide +kernel
theorem dX12_readFigure_112 : decode cX12_readFigure 112 = .ok (.dup, 1) := by decide +kernel
theorem dX12_readFigure_113 : decode cX12_readFigure 113 = .ok (.getfield 135, 3) := by decide +kernel
theorem dX12_readFigure_116 : decode cX12_readFigure 116 = .ok (.iconst 1, 1) := by decide +kernel
theorem dX12_readFigure_117 : decode cX12_readFigure 117 = .ok (.iadd, 1) := by decide +kernel
theorem dX12_readFigure_118 : decode cX12_readFigure 118 = .ok (.putfield 135, 3) := by decide +kernel
theorem dX12_readFigure_121 : decode cX12_readFigure 121 = .ok (.aload_n 0, 1) := by decide +kernel
theorem dX12_readFigure_122 : decode cX12_readFigure 122 = .ok (.invokevirtual 199, 3) := by decide +kernel
theorem dX12_readFigure_125 : decode cX12_readFigure 125 = .ok (.goto (-45), 3) := by decide +kernel
theorem dX12_readFigure_128 : decode cX12_readFigure 128 = .ok (.aload_n 0, 1) := by decide +kernel
theorem dX12_readFigure_129 : decode cX12_readFigure 129 = .ok (.getfield 142, 3) := by decide +kernel
theorem dX12_readFigure_132 : decode cX12_readFigure 132 = .ok (.iconst (-1), 1) := by decide +kernel
theorem dX12_readFigure_133 : decode cX12_readFigure 133 = .ok (.if_icmp .ne 15, 3) := by decide +kernel
theorem dX12_readFigure_136 : decode cX12_readFigure 136 = .ok (.aload_n 0, 1) := by decide +kernel
theorem dX12_readFigure_137 : decode cX12_readFigure 137 = .ok (.invokevirtual 180, 3) := by decide +kernel
theorem dX12_readFigure_140 : decode cX12_readFigure 140 = .ok (.iconst (-1), 1) := by decide +kernel
theorem dX12_readFigure_141 : decode cX12_readFigure 141 = .ok (.if_icmp .eq 7, 3) := by decide +kernel
theorem dX12_readFigure_144 : decode cX12_readFigure 144 = .ok (.aload_n 0, 1) := by decide +kernel
theorem dX12_readFigure_145 : decode cX12_readFigure 145 = .ok (.invokevirtual 164, 3) := by decide +kernel
theorem dX12_readFigure_148 : decode cX12_readFigure 148 = .ok (.aload_n 0, 1) := by decide +kernel
theorem dX12_readFigure_149 : decode cX12_readFigure 149 = .ok (.getfield 142, 3) := by decide +kernel
theorem dX12_readFigure_152 : decode cX12_readFigure 152 = .ok (.iconst (-1), 1) := by decide +kernel
theorem dX12_readFigure_153 : decode cX12_readFigure 153 = .ok (.if_icmp .ne 7, 3) := by decide +kernel
theorem dX12_readFigure_156 : decode cX12_readFigure 156 = .ok (.aload_n 0, 1) := by decide +kernel
theorem dX12_readFigure_157 : decode cX12_readFigure 157 = .ok (.invokevirtual 202, 3) := by decide +kernel
theorem dX12_readFigure_160 : decode cX12_readFigure 160 = .ok (.aload_n 0, 1) := by decide +kernel
theorem dX12_readFigure_161 : decode cX12_readFigure 161 = .ok (.getfield 142, 3) := by decide +kernel
theorem dX12_readFigure_164 : decode cX12_readFigure 164 = .ok (.ireturn, 1) := by decide +kernel
theorem dX12_numberPoints_0 : decode cX12_numberPoints 0 = .ok (.iconst 0, 1) := by decide +kernel
theorem dX12_numberPoints_1 : decode cX12_numberPoints 1 = .ok (.istore_n 1, 1) := by decide +kernel
theorem dX12_numberPoints_2 : decode cX12_numberPoints 2 = .ok (.iconst 0, 1) := by decide +kernel
theorem dX12_numberPoints_3 : decode cX12_numberPoints 3 = .ok (.istore_n 2, 1) := by decide +kernel
theorem dX12_numberPoints_4 : decode cX12_numberPoints 4 = .ok (.iload_n 2, 1) := by decide +kernel
theorem dX12_numberPoints_5 : decode cX12_numberPoints 5 = .ok (.aload_n 0, 1) := by decide +kernel
theorem dX12_numberPoints_6 : decode cX12_numberPoints 6 = .ok (.getfield 158, 3) := by decide +kernel
theorem dX12_numberPoints_9 : decode cX12_numberPoints 9 = .ok (.if_icmp .ge 28, 3) := by decide +kernel
theorem dX12_numberPoints_12 : decode cX12_numberPoints 12 = .ok (.aload_n 0, 1) := by decide +kernel
theorem dX12_numberPoints_13 : decode cX12_numberPoints 13 = .ok (.iload_n 2, 1) := by decide +kernel
theorem dX12_numberPoints_14 : decode cX12_numberPoints 14 = .ok (.invokevirtual 145, 3) := by decide +kernel
theorem dX12_numberPoints_17 : decode cX12_numberPoints 17 = .ok (.iload_n 2, 1) := by decide +kernel
theorem dX12_numberPoints_18 : decode cX12_numberPoints 18 = .ok (.if_icmp .ne 13, 3) := by decide +kernel
theorem dX12_numberPoints_21 : decode cX12_numberPoints 21 = .ok (.aload_n 0, 1) := by decide +kernel
theorem dX12_numberPoints_22 : decode cX12_numberPoints 22 = .ok (.getfield 58, 3) := by decide +kernel
theorem dX12_numberPoints_25 : decode cX12_numberPoints 25 = .ok (.iload_n 2, 1) := by decide +kernel
theorem dX12_numberPoints_26 : decode cX12_numberPoints 26 = .ok (.iload_n 1, 1) := by decide +kernel
theorem dX12_numberPoints_27 : decode cX12_numberPoints 27 = .ok (.iastore, 1) := by decide +kernel
theorem dX12_numberPoints_28 : decode cX12_numberPoints 28 = .ok (.iinc 1 1, 3) := by decide +kernel
theorem dX12_numberPoints_31 : decode cX12_numberPoints 31 = .ok (.iinc 2 1, 3) := by decide +kernel
theorem dX12_numberPoints_34 : decode cX12_numberPoints 34 = .ok (.goto (-30), 3) := by decide +kernel
theorem dX12_numberPoints_37 : decode cX12_numberPoints 37 = .ok (.aload_n 0, 1) := by decide +kernel
theorem dX12_numberPoints_38 : decode cX12_numberPoints 38 = .ok (.getfield 34, 3) := by decide +kernel
theorem dX12_numberPoints_41 : decode cX12_numberPoints 41 = .ok (.aload_n 0, 1) := by decide +kernel
theorem dX12_numberPoints_42 : decode cX12_numberPoints 42 = .ok (.getfield 161, 3) := by decide +kernel
theorem dX12_numberPoints_45 : decode cX12_numberPoints 45 = .ok (.iload_n 1, 1) := by decide +kernel
theorem dX12_numberPoints_46 : decode cX12_numberPoints 46 = .ok (.iastore, 1) := by decide +kernel
theorem dX12_numberPoints_47 : decode cX12_numberPoints 47 = .ok (.bipush 24, 2) := by decide +kernel
theorem dX12_numberPoints_49 : decode cX12_numberPoints 49 = .ok (.aload_n 0, 1) := by decide +kernel
theorem dX12_numberPoints_50 : decode cX12_numberPoints 50 = .ok (.getfield 161, 3) := by decide +kernel
theorem dX12_numberPoints_53 : decode cX12_numberPoints 53 = .ok (.imul, 1) := by decide +kernel
theorem dX12_numberPoints_54 : decode cX12_numberPoints 54 = .ok (.istore_n 2, 1) := by decide +kernel
theorem dX12_numberPoints_55 : decode cX12_numberPoints 55 = .ok (.iload_n 2, 1) := by decide +kernel
theorem dX12_numberPoints_56 : decode cX12_numberPoints 56 = .ok (.bipush 24, 2) := by decide +kernel
theorem dX12_numberPoints_58 : decode cX12_numberPoints 58 = .ok (.aload_n 0, 1) := by decide +kernel
theorem dX12_numberPoints_59 : decode cX12_numberPoints 59 = .ok (.getfield 161, 3) := by decide +kernel
theorem dX12_numberPoints_62 : decode cX12_numberPoints 62 = .ok (.imul, 1) := by decide +kernel
theorem dX12_numberPoints_63 : decode cX12_numberPoints 63 = .ok (.aload_n 0, 1) := by decide +kernel
theorem dX12_numberPoints_64 : decode cX12_numberPoints 64 = .ok (.getfield 31, 3) := by decide +kernel
theorem dX12_numberPoints_67 : decode cX12_numberPoints 67 = .ok (.aload_n 0, 1) := by decide +kernel
theorem dX12_numberPoints_68 : decode cX12_numberPoints 68 = .ok (.getfield 161, 3) := by decide +kernel
theorem dX12_numberPoints_71 : decode cX12_numberPoints 71 = .ok (.iaload, 1) := by decide +kernel
theorem dX12_numberPoints_72 : decode cX12_numberPoints 72 = .ok (.iadd, 1) := by decide +kernel
theorem dX12_numberPoints_73 : decode cX12_numberPoints 73 = .ok (.if_icmp .ge 51, 3) := by decide +kernel
theorem dX12_numberPoints_76 : decode cX12_numberPoints 76 = .ok (.aload_n 0, 1) := by decide +kernel
theorem dX12_numberPoints_77 : decode cX12_numberPoints 77 = .ok (.getfield 40, 3) := by decide +kernel
theorem dX12_numberPoints_80 : decode cX12_numberPoints 80 = .ok (.iload_n 2, 1) := by decide +kernel
theorem dX12_numberPoints_81 : decode cX12_numberPoints 81 = .ok (.aload_n 0, 1) := by decide +kernel
theorem dX12_numberPoints_82 : decode cX12_numberPoints 82 = .ok (.getfield 58, 3) := by decide +kernel
theorem dX12_numberPoints_85 : decode cX12_numberPoints 85 = .ok (.aload_n 0, 1) := by decide +kernel
theorem dX12_numberPoints_86 : decode cX12_numberPoints 86 = .ok (.aload_n 0, 1) := by decide +kernel
theorem dX12_numberPoints_87 : decode cX12_numberPoints 87 = .ok (.getfield 40, 3) := by decide +kernel
theorem dX12_numberPoints_90 : decode cX12_numberPoints 90 = .ok (.iload_n 2, 1) := by decide +kernel
theorem dX12_numberPoints_91 : decode cX12_numberPoints 91 = .ok (.iaload, 1) := by decide +kernel
theorem dX12_numberPoints_92 : decode cX12_numberPoints 92 = .ok (.invokevirtual 145, 3) := by decide +kernel
theorem dX12_numberPoints_95 : decode cX12_numberPoints 95 = .ok (.iaload, 1) := by decide +kernel
theorem dX12_numberPoints_96 : decode cX12_numberPoints 96 = .ok (.iastore, 1) := by decide +kernel
theorem dX12_numberPoints_97 : decode cX12_numberPoints 97 = .ok (.aload_n 0, 1) := by decide +kernel
theorem dX12_numberPoints_98 : decode cX12_numberPoints 98 = .ok (.getfield 43, 3) := by decide +kernel
theorem dX12_numberPoints_101 : decode cX12_numberPoints 101 = .ok (.iload_n 2, 1) := by decide +kernel
theorem dX12_numberPoints_102 : decode cX12_numberPoints 102 = .ok (.aload_n 0, 1) := by decide +kernel
theorem dX12_numberPoints_103 : decode cX12_numberPoints 103 = .ok (.getfield 58, 3) := by decide +kernel
theorem dX12_numberPoints_106 : decode cX12_numberPoints 106 = .ok (.aload_n 0, 1) := by decide +kernel
theorem dX12_numberPoints_107 : decode cX12_numberPoints 107 = .ok (.aload_n 0, 1) := by decide +kernel
theorem dX12_numberPoints_108 : decode cX12_numberPoints 108 = .ok (.getfield 43, 3) := by decide +kernel
theorem dX12_numberPoints_111 : decode cX12_numberPoints 111 = .ok (.iload_n 2, 1) := by decide +kernel
theorem dX12_numberPoints_112 : decode cX12_numberPoints 112 = .ok (.iaload, 1) := by decide +kernel
theorem dX12_numberPoints_113 : decode cX12_numberPoints 113 = .ok (.invokevirtual 145, 3) := by decide +kernel
theorem dX12_numberPoints_116 : decode cX12_numberPoints 116 = .ok (.iaload, 1) := by decide +kernel
theorem dX12_numberPoints_117 : decode cX12_numberPoints 117 = .ok (.iastore, 1) := by decide +kernel
theorem dX12_numberPoints_118 : decode cX12_numberPoints 118 = .ok (.iinc 2 1, 3) := by decide +kernel
theorem dX12_numberPoints_121 : decode cX12_numberPoints 121 = .ok (.goto (-66), 3) := by decide +kernel
theorem dX12_numberPoints_124 : decode cX12_numberPoints 124 = .ok (.return_, 1) := by decide +kernel
theorem dX12_say_0 : decode cX12_say 0 = .ok (.aload_n 0, 1) := by decide +kernel
theorem dX12_say_1 : decode cX12_say 1 = .ok (.getfield 61, 3) := by decide +kernel
theorem dX12_say_4 : decode cX12_say 4 = .ok (.sipush 400, 3) := by decide +kernel
theorem dX12_say_7 : decode cX12_say 7 = .ok (.aload_n 0, 1) := by decide +kernel
theorem dX12_say_8 : decode cX12_say 8 = .ok (.getfield 205, 3) := by decide +kernel
theorem dX12_say_11 : decode cX12_say 11 = .ok (.imul, 1) := by decide +kernel
theorem dX12_say_12 : decode cX12_say 12 = .ok (.aload_n 0, 1) := by decide +kernel
theorem dX12_say_13 : decode cX12_say 13 = .ok (.getfield 208, 3) := by decide +kernel
theorem dX12_say_16 : decode cX12_say 16 = .ok (.iadd, 1) := by decide +kernel
theorem dX12_say_17 : decode cX12_say 17 = .ok (.iload_n 1, 1) := by decide +kernel
theorem dX12_say_18 : decode cX12_say 18 = .ok (.iastore, 1) := by decide +kernel
theorem dX12_say_19 : decode cX12_say 19 = .ok (.aload_n 0, 1) := by decide +kernel
theorem dX12_say_20 : decode cX12_say 20 = .ok (.dup, 1) := by decide +kernel
theorem dX12_say_21 : decode cX12_say 21 = .ok (.getfield 208, 3) := by decide +kernel
theorem dX12_say_24 : decode cX12_say 24 = .ok (.iconst 1, 1) := by decide +kernel
theorem dX12_say_25 : decode cX12_say 25 = .ok (.iadd, 1) := by decide +kernel
theorem dX12_say_26 : decode cX12_say 26 = .ok (.putfield 208, 3) := by decide +kernel
theorem dX12_say_29 : decode cX12_say 29 = .ok (.return_, 1) := by decide +kernel
theorem dX12_opens_0 : decode cX12_opens 0 = .ok (.aload_n 0, 1) := by decide +kernel
theorem dX12_opens_1 : decode cX12_opens 1 = .ok (.getfield 193, 3) := by decide +kernel
theorem dX12_opens_4 : decode cX12_opens 4 = .ok (.bipush 6, 2) := by decide +kernel
theorem dX12_opens_6 : decode cX12_opens 6 = .ok (.if_icmp .ne 8, 3) := by decide +kernel
theorem dX12_opens_9 : decode cX12_opens 9 = .ok (.aload_n 0, 1) := by decide +kernel
theorem dX12_opens_10 : decode cX12_opens 10 = .ok (.invokevirtual 164, 3) := by decide +kernel
theorem dX12_opens_13 : decode cX12_opens 13 = .ok (.return_, 1) := by decide +kernel
theorem dX12_opens_14 : decode cX12_opens 14 = .ok (.aload_n 0, 1) := by decide +kernel
theorem dX12_opens_15 : decode cX12_opens 15 = .ok (.dup, 1) := by decide +kernel
theorem dX12_opens_16 : decode cX12_opens 16 = .ok (.getfield 193, 3) := by decide +kernel
theorem dX12_opens_19 : decode cX12_opens 19 = .ok (.iconst 1, 1) := by decide +kernel
theorem dX12_opens_20 : decode cX12_opens 20 = .ok (.iadd, 1) := by decide +kernel
theorem dX12_opens_21 : decode cX12_opens 21 = .ok (.putfield 193, 3) := by decide +kernel
theorem dX12_opens_24 : decode cX12_opens 24 = .ok (.aload_n 0, 1) := by decide +kernel
theorem dX12_opens_25 : decode cX12_opens 25 = .ok (.dup, 1) := by decide +kernel
theorem dX12_opens_26 : decode cX12_opens 26 = .ok (.getfield 135, 3) := by decide +kernel
theorem dX12_opens_29 : decode cX12_opens 29 = .ok (.iconst 1, 1) := by decide +kernel
theorem dX12_opens_30 : decode cX12_opens 30 = .ok (.iadd, 1) := by decide +kernel
theorem dX12_opens_31 : decode cX12_opens 31 = .ok (.putfield 135, 3) := by decide +kernel
theorem dX12_opens_34 : decode cX12_opens 34 = .ok (.return_, 1) := by decide +kernel
theorem dX12_sign_0 : decode cX12_sign 0 = .ok (.aload_n 0, 1) := by decide +kernel
theorem dX12_sign_1 : decode cX12_sign 1 = .ok (.getfield 142, 3) := by decide +kernel
theorem dX12_sign_4 : decode cX12_sign 4 = .ok (.iconst (-1), 1) := by decide +kernel
theorem dX12_sign_5 : decode cX12_sign 5 = .ok (.if_icmp .ne 15, 3) := by decide +kernel
theorem dX12_sign_8 : decode cX12_sign 8 = .ok (.aload_n 0, 1) := by decide +kernel
theorem dX12_sign_9 : decode cX12_sign 9 = .ok (.invokevirtual 180, 3) := by decide +kernel
theorem dX12_sign_12 : decode cX12_sign 12 = .ok (.iload_n 1, 1) := by decide +kernel
theorem dX12_sign_13 : decode cX12_sign 13 = .ok (.if_icmp .eq 7, 3) := by decide +kernel
theorem dX12_sign_16 : decode cX12_sign 16 = .ok (.aload_n 0, 1) := by decide +kernel
theorem dX12_sign_17 : decode cX12_sign 17 = .ok (.invokevirtual 164, 3) := by decide +kernel
theorem dX12_sign_20 : decode cX12_sign 20 = .ok (.aload_n 0, 1) := by decide +kernel
theorem dX12_sign_21 : decode cX12_sign 21 = .ok (.dup, 1) := by decide +kernel
theorem dX12_sign_22 : decode cX12_sign 22 = .ok (.getfield 135, 3) := by decide +kernel
theorem dX12_sign_25 : decode cX12_sign 25 = .ok (.iconst 1, 1) := by decide +kernel
theorem dX12_sign_26 : decode cX12_sign 26 = .ok (.iadd, 1) := by decide +kernel
theorem dX12_sign_27 : decode cX12_sign 27 = .ok (.putfield 135, 3) := by decide +kernel
theorem dX12_sign_30 : decode cX12_sign 30 = .ok (.aload_n 0, 1) := by decide +kernel
theorem dX12_sign_31 : decode cX12_sign 31 = .ok (.dup, 1) := by decide +kernel
theorem dX12_sign_32 : decode cX12_sign 32 = .ok (.getfield 193, 3) := by decide +kernel
theorem dX12_sign_35 : decode cX12_sign 35 = .ok (.iconst 1, 1) := by decide +kernel
theorem dX12_sign_36 : decode cX12_sign 36 = .ok (.isub, 1) := by decide +kernel
theorem dX12_sign_37 : decode cX12_sign 37 = .ok (.putfield 193, 3) := by decide +kernel
theorem dX12_sign_40 : decode cX12_sign 40 = .ok (.return_, 1) := by decide +kernel
theorem dX12_isLetter_0 : decode cX12_isLetter 0 = .ok (.iload_n 0, 1) := by decide +kernel
theorem dX12_isLetter_1 : decode cX12_isLetter 1 = .ok (.bipush 108, 2) := by decide +kernel
theorem dX12_isLetter_3 : decode cX12_isLetter 3 = .ok (.if_icmp .eq 27, 3) := by decide +kernel
theorem dX12_isLetter_6 : decode cX12_isLetter 6 = .ok (.iload_n 0, 1) := by decide +kernel
theorem dX12_isLetter_7 : decode cX12_isLetter 7 = .ok (.bipush 104, 2) := by decide +kernel
theorem dX12_isLetter_9 : decode cX12_isLetter 9 = .ok (.if_icmp .eq 21, 3) := by decide +kernel
theorem dX12_isLetter_12 : decode cX12_isLetter 12 = .ok (.iload_n 0, 1) := by decide +kernel
theorem dX12_isLetter_13 : decode cX12_isLetter 13 = .ok (.bipush 107, 2) := by decide +kernel
theorem dX12_isLetter_15 : decode cX12_isLetter 15 = .ok (.if_icmp .eq 15, 3) := by decide +kernel
theorem dX12_isLetter_18 : decode cX12_isLetter 18 = .ok (.iload_n 0, 1) := by decide +kernel
theorem dX12_isLetter_19 : decode cX12_isLetter 19 = .ok (.bipush 115, 2) := by decide +kernel
theorem dX12_isLetter_21 : decode cX12_isLetter 21 = .ok (.if_icmp .eq 9, 3) := by decide +kernel
theorem dX12_isLetter_24 : decode cX12_isLetter 24 = .ok (.iload_n 0, 1) := by decide +kernel
theorem dX12_isLetter_25 : decode cX12_isLetter 25 = .ok (.bipush 97, 2) := by decide +kernel
theorem dX12_isLetter_27 : decode cX12_isLetter 27 = .ok (.if_icmp .ne 7, 3) := by decide +kernel
theorem dX12_isLetter_30 : decode cX12_isLetter 30 = .ok (.iconst 1, 1) := by decide +kernel
theorem dX12_isLetter_31 : decode cX12_isLetter 31 = .ok (.goto 4, 3) := by decide +kernel
theorem dX12_isLetter_34 : decode cX12_isLetter 34 = .ok (.iconst 0, 1) := by decide +kernel
theorem dX12_isLetter_35 : decode cX12_isLetter 35 = .ok (.ireturn, 1) := by decide +kernel
theorem dX12_atom_0 : decode cX12_atom 0 = .ok (.aload_n 0, 1) := by decide +kernel
theorem dX12_atom_1 : decode cX12_atom 1 = .ok (.getfield 142, 3) := by decide +kernel
theorem dX12_atom_4 : decode cX12_atom 4 = .ok (.iconst (-1), 1) := by decide +kernel
theorem dX12_atom_5 : decode cX12_atom 5 = .ok (.if_icmp .ne 10, 3) := by decide +kernel
theorem dX12_atom_8 : decode cX12_atom 8 = .ok (.aload_n 0, 1) := by decide +kernel
theorem dX12_atom_9 : decode cX12_atom 9 = .ok (.invokevirtual 180, 3) := by decide +kernel
theorem dX12_atom_12 : decode cX12_atom 12 = .ok (.goto 4, 3) := by decide +kernel
theorem dX12_atom_15 : decode cX12_atom 15 = .ok (.iconst (-1), 1) := by decide +kernel
theorem dX12_atom_16 : decode cX12_atom 16 = .ok (.istore_n 1, 1) := by decide +kernel
theorem dX12_atom_17 : decode cX12_atom 17 = .ok (.iload_n 1, 1) := by decide +kernel
theorem dX12_atom_18 : decode cX12_atom 18 = .ok (.invokestatic 167, 3) := by decide +kernel
theorem dX12_atom_21 : decode cX12_atom 21 = .ok (.ifCond .eq 69, 3) := by decide +kernel
theorem dX12_atom_24 : decode cX12_atom 24 = .ok (.iconst 0, 1) := by decide +kernel
theorem dX12_atom_25 : decode cX12_atom 25 = .ok (.istore_n 2, 1) := by decide +kernel
theorem dX12_atom_26 : decode cX12_atom 26 = .ok (.iconst 0, 1) := by decide +kernel
theorem dX12_atom_27 : decode cX12_atom 27 = .ok (.istore_n 3, 1) := by decide +kernel
theorem dX12_atom_28 : decode cX12_atom 28 = .ok (.aload_n 0, 1) := by decide +kernel
theorem dX12_atom_29 : decode cX12_atom 29 = .ok (.invokevirtual 138, 3) := by decide +kernel
theorem dX12_atom_32 : decode cX12_atom 32 = .ok (.invokestatic 167, 3) := by decide +kernel
theorem dX12_atom_35 : decode cX12_atom 35 = .ok (.ifCond .eq 42, 3) := by decide +kernel
theorem dX12_atom_38 : decode cX12_atom 38 = .ok (.iload_n 3, 1) := by decide +kernel
theorem dX12_atom_39 : decode cX12_atom 39 = .ok (.iconst 4, 1) := by decide +kernel
theorem dX12_atom_40 : decode cX12_atom 40 = .ok (.if_icmp .ne 8, 3) := by decide +kernel
theorem dX12_atom_43 : decode cX12_atom 43 = .ok (.aload_n 0, 1) := by decide +kernel
theorem dX12_atom_44 : decode cX12_atom 44 = .ok (.invokevirtual 164, 3) := by decide +kernel
theorem dX12_atom_47 : decode cX12_atom 47 = .ok (.return_, 1) := by decide +kernel
theorem dX12_atom_48 : decode cX12_atom 48 = .ok (.bipush 10, 2) := by decide +kernel
theorem dX12_atom_50 : decode cX12_atom 50 = .ok (.iload_n 2, 1) := by decide +kernel
theorem dX12_atom_51 : decode cX12_atom 51 = .ok (.imul, 1) := by decide +kernel
theorem dX12_atom_52 : decode cX12_atom 52 = .ok (.aload_n 0, 1) := by decide +kernel
theorem dX12_atom_53 : decode cX12_atom 53 = .ok (.invokevirtual 138, 3) := by decide +kernel
theorem dX12_atom_56 : decode cX12_atom 56 = .ok (.iadd, 1) := by decide +kernel
theorem dX12_atom_57 : decode cX12_atom 57 = .ok (.bipush 48, 2) := by decide +kernel
theorem dX12_atom_59 : decode cX12_atom 59 = .ok (.isub, 1) := by decide +kernel
theorem dX12_atom_60 : decode cX12_atom 60 = .ok (.istore_n 2, 1) := by decide +kernel
theorem dX12_atom_61 : decode cX12_atom 61 = .ok (.iinc 3 1, 3) := by decide +kernel
theorem dX12_atom_64 : decode cX12_atom 64 = .ok (.aload_n 0, 1) := by decide +kernel
theorem dX12_atom_65 : decode cX12_atom 65 = .ok (.dup, 1) := by decide +kernel
theorem dX12_atom_66 : decode cX12_atom 66 = .ok (.getfield 135, 3) := by decide +kernel
theorem dX12_atom_69 : decode cX12_atom 69 = .ok (.iconst 1, 1) := by decide +kernel
theorem dX12_atom_70 : decode cX12_atom 70 = .ok (.iadd, 1) := by decide +kernel
theorem dX12_atom_71 : decode cX12_atom 71 = .ok (.putfield 135, 3) := by decide +kernel
theorem dX12_atom_74 : decode cX12_atom 74 = .ok (.goto (-46), 3) := by decide +kernel
theorem dX12_atom_77 : decode cX12_atom 77 = .ok (.aload_n 0, 1) := by decide +kernel
theorem dX12_atom_78 : decode cX12_atom 78 = .ok (.iconst 0, 1) := by decide +kernel
theorem dX12_atom_79 : decode cX12_atom 79 = .ok (.invokevirtual 211, 3) := by decide +kernel
theorem dX12_atom_82 : decode cX12_atom 82 = .ok (.aload_n 0, 1) := by decide +kernel
theorem dX12_atom_83 : decode cX12_atom 83 = .ok (.iload_n 2, 1) := by decide +kernel
theorem dX12_atom_84 : decode cX12_atom 84 = .ok (.invokevirtual 211, 3) := by decide +kernel
theorem dX12_atom_87 : decode cX12_atom 87 = .ok (.goto 68, 3) := by decide +kernel
theorem dX12_atom_90 : decode cX12_atom 90 = .ok (.iload_n 1, 1) := by decide +kernel
theorem dX12_atom_91 : decode cX12_atom 91 = .ok (.invokestatic 215, 3) := by decide +kernel
theorem dX12_atom_94 : decode cX12_atom 94 = .ok (.ifCond .eq 26, 3) := by decide +kernel
theorem dX12_atom_97 : decode cX12_atom 97 = .ok (.aload_n 0, 1) := by decide +kernel
theorem dX12_atom_98 : decode cX12_atom 98 = .ok (.dup, 1) := by decide +kernel
theorem dX12_atom_99 : decode cX12_atom 99 = .ok (.getfield 135, 3) := by decide +kernel
theorem dX12_atom_102 : decode cX12_atom 102 = .ok (.iconst 1, 1) := by decide +kernel
theorem dX12_atom_103 : decode cX12_atom 103 = .ok (.iadd, 1) := by decide +kernel
theorem dX12_atom_104 : decode cX12_atom 104 = .ok (.putfield 135, 3) := by decide +kernel
theorem dX12_atom_107 : decode cX12_atom 107 = .ok (.aload_n 0, 1) := by decide +kernel
theorem dX12_atom_108 : decode cX12_atom 108 = .ok (.iconst 1, 1) := by decide +kernel
theorem dX12_atom_109 : decode cX12_atom 109 = .ok (.invokevirtual 211, 3) := by decide +kernel
theorem dX12_atom_112 : decode cX12_atom 112 = .ok (.aload_n 0, 1) := by decide +kernel
theorem dX12_atom_113 : decode cX12_atom 113 = .ok (.iload_n 1, 1) := by decide +kernel
theorem dX12_atom_114 : decode cX12_atom 114 = .ok (.invokevirtual 211, 3) := by decide +kernel
theorem dX12_atom_117 : decode cX12_atom 117 = .ok (.goto 38, 3) := by decide +kernel
theorem dX12_atom_120 : decode cX12_atom 120 = .ok (.iload_n 1, 1) := by decide +kernel
theorem dX12_atom_121 : decode cX12_atom 121 = .ok (.bipush 91, 2) := by decide +kernel
theorem dX12_atom_123 : decode cX12_atom 123 = .ok (.if_icmp .ne 28, 3) := by decide +kernel
theorem dX12_atom_126 : decode cX12_atom 126 = .ok (.aload_n 0, 1) := by decide +kernel
theorem dX12_atom_127 : decode cX12_atom 127 = .ok (.invokevirtual 218, 3) := by decide +kernel
theorem dX12_atom_130 : decode cX12_atom 130 = .ok (.aload_n 0, 1) := by decide +kernel
theorem dX12_atom_131 : decode cX12_atom 131 = .ok (.getfield 142, 3) := by decide +kernel
theorem dX12_atom_134 : decode cX12_atom 134 = .ok (.iconst (-1), 1) := by decide +kernel
theorem dX12_atom_135 : decode cX12_atom 135 = .ok (.if_icmp .ne 20, 3) := by decide +kernel
theorem dX12_atom_138 : decode cX12_atom 138 = .ok (.aload_n 0, 1) := by decide +kernel
theorem dX12_atom_139 : decode cX12_atom 139 = .ok (.invokevirtual 221, 3) := by decide +kernel
theorem dX12_atom_142 : decode cX12_atom 142 = .ok (.aload_n 0, 1) := by decide +kernel
theorem dX12_atom_143 : decode cX12_atom 143 = .ok (.bipush 93, 2) := by decide +kernel
theorem dX12_atom_145 : decode cX12_atom 145 = .ok (.invokevirtual 224, 3) := by decide +kernel
theorem dX12_atom_148 : decode cX12_atom 148 = .ok (.goto 7, 3) := by decide +kernel
theorem dX12_atom_151 : decode cX12_atom 151 = .ok (.aload_n 0, 1) := by decide +kernel
theorem dX12_atom_152 : decode cX12_atom 152 = .ok (.invokevirtual 164, 3) := by decide +kernel
theorem dX12_atom_155 : decode cX12_atom 155 = .ok (.return_, 1) := by decide +kernel
theorem dX12_term_0 : decode cX12_term 0 = .ok (.aload_n 0, 1) := by decide +kernel
theorem dX12_term_1 : decode cX12_term 1 = .ok (.invokevirtual 227, 3) := by decide +kernel
theorem dX12_term_4 : decode cX12_term 4 = .ok (.aload_n 0, 1) := by decide +kernel
theorem dX12_term_5 : decode cX12_term 5 = .ok (.getfield 142, 3) := by decide +kernel
theorem dX12_term_8 : decode cX12_term 8 = .ok (.iconst (-1), 1) := by decide +kernel
theorem dX12_term_9 : decode cX12_term 9 = .ok (.if_icmp .ne 48, 3) := by decide +kernel
theorem dX12_term_12 : decode cX12_term 12 = .ok (.aload_n 0, 1) := by decide +kernel
theorem dX12_term_13 : decode cX12_term 13 = .ok (.invokevirtual 180, 3) := by decide +kernel
theorem dX12_term_16 : decode cX12_term 16 = .ok (.bipush 42, 2) := by decide +kernel
theorem dX12_term_18 : decode cX12_term 18 = .ok (.if_icmp .eq 12, 3) := by decide +kernel
theorem dX12_term_21 : decode cX12_term 21 = .ok (.aload_n 0, 1) := by decide +kernel
theorem dX12_term_22 : decode cX12_term 22 = .ok (.invokevirtual 180, 3) := by decide +kernel
theorem dX12_term_25 : decode cX12_term 25 = .ok (.bipush 47, 2) := by decide +kernel
theorem dX12_term_27 : decode cX12_term 27 = .ok (.if_icmp .ne 30, 3) := by decide +kernel
theorem dX12_term_30 : decode cX12_term 30 = .ok (.aload_n 0, 1) := by decide +kernel
theorem dX12_term_31 : decode cX12_term 31 = .ok (.invokevirtual 180, 3) := by decide +kernel
theorem dX12_term_34 : decode cX12_term 34 = .ok (.istore_n 1, 1) := by decide +kernel
theorem dX12_term_35 : decode cX12_term 35 = .ok (.aload_n 0, 1) := by decide +kernel
theorem dX12_term_36 : decode cX12_term 36 = .ok (.dup, 1) := by decide +kernel
theorem dX12_term_37 : decode cX12_term 37 = .ok (.getfield 135, 3) := by decide +kernel
theorem dX12_term_40 : decode cX12_term 40 = .ok (.iconst 1, 1) := by decide +kernel
theorem dX12_term_41 : decode cX12_term 41 = .ok (.iadd, 1) := by decide +kernel
theorem dX12_term_42 : decode cX12_term 42 = .ok (.putfield 135, 3) := by decide +kernel
theorem dX12_term_45 : decode cX12_term 45 = .ok (.aload_n 0, 1) := by decide +kernel
theorem dX12_term_46 : decode cX12_term 46 = .ok (.invokevirtual 227, 3) := by decide +kernel
theorem dX12_term_49 : decode cX12_term 49 = .ok (.aload_n 0, 1) := by decide +kernel
theorem dX12_term_50 : decode cX12_term 50 = .ok (.iload_n 1, 1) := by decide +kernel
theorem dX12_term_51 : decode cX12_term 51 = .ok (.invokevirtual 211, 3) := by decide +kernel
theorem dX12_term_54 : decode cX12_term 54 = .ok (.goto (-50), 3) := by decide +kernel
theorem dX12_term_57 : decode cX12_term 57 = .ok (.return_, 1) := by decide +kernel
theorem dX12_sum_0 : decode cX12_sum 0 = .ok (.aload_n 0, 1) := by decide +kernel
theorem dX12_sum_1 : decode cX12_sum 1 = .ok (.invokevirtual 230, 3) := by decide +kernel
theorem dX12_sum_4 : decode cX12_sum 4 = .ok (.aload_n 0, 1) := by decide +kernel
theorem dX12_sum_5 : decode cX12_sum 5 = .ok (.getfield 142, 3) := by decide +kernel
theorem dX12_sum_8 : decode cX12_sum 8 = .ok (.iconst (-1), 1) := by decide +kernel
theorem dX12_sum_9 : decode cX12_sum 9 = .ok (.if_icmp .ne 48, 3) := by decide +kernel
theorem dX12_sum_12 : decode cX12_sum 12 = .ok (.aload_n 0, 1) := by decide +kernel
theorem dX12_sum_13 : decode cX12_sum 13 = .ok (.invokevirtual 180, 3) := by decide +kernel
theorem dX12_sum_16 : decode cX12_sum 16 = .ok (.bipush 43, 2) := by decide +kernel
theorem dX12_sum_18 : decode cX12_sum 18 = .ok (.if_icmp .eq 12, 3) := by decide +kernel
theorem dX12_sum_21 : decode cX12_sum 21 = .ok (.aload_n 0, 1) := by decide +kernel
theorem dX12_sum_22 : decode cX12_sum 22 = .ok (.invokevirtual 180, 3) := by decide +kernel
theorem dX12_sum_25 : decode cX12_sum 25 = .ok (.bipush 45, 2) := by decide +kernel
theorem dX12_sum_27 : decode cX12_sum 27 = .ok (.if_icmp .ne 30, 3) := by decide +kernel
theorem dX12_sum_30 : decode cX12_sum 30 = .ok (.aload_n 0, 1) := by decide +kernel
theorem dX12_sum_31 : decode cX12_sum 31 = .ok (.invokevirtual 180, 3) := by decide +kernel
theorem dX12_sum_34 : decode cX12_sum 34 = .ok (.istore_n 1, 1) := by decide +kernel
theorem dX12_sum_35 : decode cX12_sum 35 = .ok (.aload_n 0, 1) := by decide +kernel
theorem dX12_sum_36 : decode cX12_sum 36 = .ok (.dup, 1) := by decide +kernel
theorem dX12_sum_37 : decode cX12_sum 37 = .ok (.getfield 135, 3) := by decide +kernel
theorem dX12_sum_40 : decode cX12_sum 40 = .ok (.iconst 1, 1) := by decide +kernel
theorem dX12_sum_41 : decode cX12_sum 41 = .ok (.iadd, 1) := by decide +kernel
theorem dX12_sum_42 : decode cX12_sum 42 = .ok (.putfield 135, 3) := by decide +kernel
theorem dX12_sum_45 : decode cX12_sum 45 = .ok (.aload_n 0, 1) := by decide +kernel
theorem dX12_sum_46 : decode cX12_sum 46 = .ok (.invokevirtual 230, 3) := by decide +kernel
theorem dX12_sum_49 : decode cX12_sum 49 = .ok (.aload_n 0, 1) := by decide +kernel
theorem dX12_sum_50 : decode cX12_sum 50 = .ok (.iload_n 1, 1) := by decide +kernel
theorem dX12_sum_51 : decode cX12_sum 51 = .ok (.invokevirtual 211, 3) := by decide +kernel
theorem dX12_sum_54 : decode cX12_sum 54 = .ok (.goto (-50), 3) := by decide +kernel
theorem dX12_sum_57 : decode cX12_sum 57 = .ok (.return_, 1) := by decide +kernel
theorem dX12_unit_0 : decode cX12_unit 0 = .ok (.aload_n 0, 1) := by decide +kernel
theorem dX12_unit_1 : decode cX12_unit 1 = .ok (.getfield 142, 3) := by decide +kernel
theorem dX12_unit_4 : decode cX12_unit 4 = .ok (.iconst (-1), 1) := by decide +kernel
theorem dX12_unit_5 : decode cX12_unit 5 = .ok (.if_icmp .ne 10, 3) := by decide +kernel
theorem dX12_unit_8 : decode cX12_unit 8 = .ok (.aload_n 0, 1) := by decide +kernel
theorem dX12_unit_9 : decode cX12_unit 9 = .ok (.invokevirtual 180, 3) := by decide +kernel
theorem dX12_unit_12 : decode cX12_unit 12 = .ok (.goto 4, 3) := by decide +kernel
theorem dX12_unit_15 : decode cX12_unit 15 = .ok (.iconst (-1), 1) := by decide +kernel
theorem dX12_unit_16 : decode cX12_unit 16 = .ok (.istore_n 2, 1) := by decide +kernel
theorem dX12_unit_17 : decode cX12_unit 17 = .ok (.iload_n 1, 1) := by decide +kernel
theorem dX12_unit_18 : decode cX12_unit 18 = .ok (.ifCond .ne 70, 3) := by decide +kernel
theorem dX12_unit_21 : decode cX12_unit 21 = .ok (.iload_n 2, 1) := by decide +kernel
theorem dX12_unit_22 : decode cX12_unit 22 = .ok (.bipush 33, 2) := by decide +kernel
theorem dX12_unit_24 : decode cX12_unit 24 = .ok (.if_icmp .eq 9, 3) := by decide +kernel
theorem dX12_unit_27 : decode cX12_unit 27 = .ok (.iload_n 2, 1) := by decide +kernel
theorem dX12_unit_28 : decode cX12_unit 28 = .ok (.bipush 40, 2) := by decide +kernel
theorem dX12_unit_30 : decode cX12_unit 30 = .ok (.if_icmp .ne 58, 3) := by decide +kernel
theorem dX12_unit_33 : decode cX12_unit 33 = .ok (.aload_n 0, 1) := by decide +kernel
theorem dX12_unit_34 : decode cX12_unit 34 = .ok (.invokevirtual 218, 3) := by decide +kernel
theorem dX12_unit_37 : decode cX12_unit 37 = .ok (.aload_n 0, 1) := by decide +kernel
theorem dX12_unit_38 : decode cX12_unit 38 = .ok (.getfield 142, 3) := by decide +kernel
theorem dX12_unit_41 : decode cX12_unit 41 = .ok (.iconst (-1), 1) := by decide +kernel
theorem dX12_unit_42 : decode cX12_unit 42 = .ok (.if_icmp .eq 4, 3) := by decide +kernel
theorem dX12_unit_45 : decode cX12_unit 45 = .ok (.return_, 1) := by decide +kernel
theorem dX12_unit_46 : decode cX12_unit 46 = .ok (.iload_n 2, 1) := by decide +kernel
theorem dX12_unit_47 : decode cX12_unit 47 = .ok (.bipush 33, 2) := by decide +kernel
theorem dX12_unit_49 : decode cX12_unit 49 = .ok (.if_icmp .ne 27, 3) := by decide +kernel
theorem dX12_unit_52 : decode cX12_unit 52 = .ok (.aload_n 0, 1) := by decide +kernel
theorem dX12_unit_53 : decode cX12_unit 53 = .ok (.iconst 0, 1) := by decide +kernel
theorem dX12_unit_54 : decode cX12_unit 54 = .ok (.invokevirtual 233, 3) := by decide +kernel
theorem dX12_unit_57 : decode cX12_unit 57 = .ok (.aload_n 0, 1) := by decide +kernel
theorem dX12_unit_58 : decode cX12_unit 58 = .ok (.dup, 1) := by decide +kernel
theorem dX12_unit_59 : decode cX12_unit 59 = .ok (.getfield 193, 3) := by decide +kernel
theorem dX12_unit_62 : decode cX12_unit 62 = .ok (.iconst 1, 1) := by decide +kernel
theorem dX12_unit_63 : decode cX12_unit 63 = .ok (.isub, 1) := by decide +kernel
theorem dX12_unit_64 : decode cX12_unit 64 = .ok (.putfield 193, 3) := by decide +kernel
theorem dX12_unit_67 : decode cX12_unit 67 = .ok (.aload_n 0, 1) := by decide +kernel
theorem dX12_unit_68 : decode cX12_unit 68 = .ok (.bipush 33, 2) := by decide +kernel
theorem dX12_unit_70 : decode cX12_unit 70 = .ok (.invokevirtual 211, 3) := by decide +kernel
theorem dX12_unit_73 : decode cX12_unit 73 = .ok (.goto 14, 3) := by decide +kernel
theorem dX12_unit_76 : decode cX12_unit 76 = .ok (.aload_n 0, 1) := by decide +kernel
theorem dX12_unit_77 : decode cX12_unit 77 = .ok (.iconst 0, 1) := by decide +kernel
theorem dX12_unit_78 : decode cX12_unit 78 = .ok (.invokevirtual 237, 3) := by decide +kernel
theorem dX12_unit_81 : decode cX12_unit 81 = .ok (.aload_n 0, 1) := by decide +kernel
theorem dX12_unit_82 : decode cX12_unit 82 = .ok (.bipush 41, 2) := by decide +kernel
theorem dX12_unit_84 : decode cX12_unit 84 = .ok (.invokevirtual 224, 3) := by decide +kernel
theorem dX12_unit_87 : decode cX12_unit 87 = .ok (.return_, 1) := by decide +kernel
theorem dX12_unit_88 : decode cX12_unit 88 = .ok (.iload_n 1, 1) := by decide +kernel
theorem dX12_unit_89 : decode cX12_unit 89 = .ok (.ifCond .ne 7, 3) := by decide +kernel
theorem dX12_unit_92 : decode cX12_unit 92 = .ok (.aload_n 0, 1) := by decide +kernel
theorem dX12_unit_93 : decode cX12_unit 93 = .ok (.invokevirtual 221, 3) := by decide +kernel
theorem dX12_unit_96 : decode cX12_unit 96 = .ok (.aload_n 0, 1) := by decide +kernel
theorem dX12_unit_97 : decode cX12_unit 97 = .ok (.getfield 142, 3) := by decide +kernel
theorem dX12_unit_100 : decode cX12_unit 100 = .ok (.iconst (-1), 1) := by decide +kernel
theorem dX12_unit_101 : decode cX12_unit 101 = .ok (.if_icmp .ne 10, 3) := by decide +kernel
theorem dX12_unit_104 : decode cX12_unit 104 = .ok (.aload_n 0, 1) := by decide +kernel
theorem dX12_unit_105 : decode cX12_unit 105 = .ok (.invokevirtual 180, 3) := by decide +kernel
theorem dX12_unit_108 : decode cX12_unit 108 = .ok (.goto 4, 3) := by decide +kernel
theorem dX12_unit_111 : decode cX12_unit 111 = .ok (.iconst (-1), 1) := by decide +kernel
theorem dX12_unit_112 : decode cX12_unit 112 = .ok (.istore_n 2, 1) := by decide +kernel
theorem dX12_unit_113 : decode cX12_unit 113 = .ok (.iload_n 2, 1) := by decide +kernel
theorem dX12_unit_114 : decode cX12_unit 114 = .ok (.bipush 61, 2) := by decide +kernel
theorem dX12_unit_116 : decode cX12_unit 116 = .ok (.if_icmp .eq 20, 3) := by decide +kernel
theorem dX12_unit_119 : decode cX12_unit 119 = .ok (.iload_n 2, 1) := by decide +kernel
theorem dX12_unit_120 : decode cX12_unit 120 = .ok (.bipush 60, 2) := by decide +kernel
theorem dX12_unit_122 : decode cX12_unit 122 = .ok (.if_icmp .eq 14, 3) := by decide +kernel
theorem dX12_unit_125 : decode cX12_unit 125 = .ok (.iload_n 2, 1) := by decide +kernel
theorem dX12_unit_126 : decode cX12_unit 126 = .ok (.bipush 62, 2) := by decide +kernel
theorem dX12_unit_128 : decode cX12_unit 128 = .ok (.if_icmp .eq 8, 3) := by decide +kernel
theorem dX12_unit_131 : decode cX12_unit 131 = .ok (.aload_n 0, 1) := by decide +kernel
theorem dX12_unit_132 : decode cX12_unit 132 = .ok (.invokevirtual 164, 3) := by decide +kernel
theorem dX12_unit_135 : decode cX12_unit 135 = .ok (.return_, 1) := by decide +kernel
theorem dX12_unit_136 : decode cX12_unit 136 = .ok (.aload_n 0, 1) := by decide +kernel
theorem dX12_unit_137 : decode cX12_unit 137 = .ok (.dup, 1) := by decide +kernel
theorem dX12_unit_138 : decode cX12_unit 138 = .ok (.getfield 135, 3) := by decide +kernel
theorem dX12_unit_141 : decode cX12_unit 141 = .ok (.iconst 1, 1) := by decide +kernel
theorem dX12_unit_142 : decode cX12_unit 142 = .ok (.iadd, 1) := by decide +kernel
theorem dX12_unit_143 : decode cX12_unit 143 = .ok (.putfield 135, 3) := by decide +kernel
theorem dX12_unit_146 : decode cX12_unit 146 = .ok (.aload_n 0, 1) := by decide +kernel
theorem dX12_unit_147 : decode cX12_unit 147 = .ok (.invokevirtual 221, 3) := by decide +kernel
theorem dX12_unit_150 : decode cX12_unit 150 = .ok (.aload_n 0, 1) := by decide +kernel
theorem dX12_unit_151 : decode cX12_unit 151 = .ok (.iload_n 2, 1) := by decide +kernel
theorem dX12_unit_152 : decode cX12_unit 152 = .ok (.invokevirtual 211, 3) := by decide +kernel
theorem dX12_unit_155 : decode cX12_unit 155 = .ok (.return_, 1) := by decide +kernel
theorem dX12_truth_0 : decode cX12_truth 0 = .ok (.aload_n 0, 1) := by decide +kernel
theorem dX12_truth_1 : decode cX12_truth 1 = .ok (.iload_n 1, 1) := by decide +kernel
theorem dX12_truth_2 : decode cX12_truth 2 = .ok (.invokevirtual 233, 3) := by decide +kernel
theorem dX12_truth_5 : decode cX12_truth 5 = .ok (.aload_n 0, 1) := by decide +kernel
theorem dX12_truth_6 : decode cX12_truth 6 = .ok (.getfield 142, 3) := by decide +kernel
theorem dX12_truth_9 : decode cX12_truth 9 = .ok (.iconst (-1), 1) := by decide +kernel
theorem dX12_truth_10 : decode cX12_truth 10 = .ok (.if_icmp .ne 36, 3) := by decide +kernel
theorem dX12_truth_13 : decode cX12_truth 13 = .ok (.aload_n 0, 1) := by decide +kernel
theorem dX12_truth_14 : decode cX12_truth 14 = .ok (.invokevirtual 180, 3) := by decide +kernel
theorem dX12_truth_17 : decode cX12_truth 17 = .ok (.bipush 38, 2) := by decide +kernel
theorem dX12_truth_19 : decode cX12_truth 19 = .ok (.if_icmp .ne 27, 3) := by decide +kernel
theorem dX12_truth_22 : decode cX12_truth 22 = .ok (.aload_n 0, 1) := by decide +kernel
theorem dX12_truth_23 : decode cX12_truth 23 = .ok (.dup, 1) := by decide +kernel
theorem dX12_truth_24 : decode cX12_truth 24 = .ok (.getfield 135, 3) := by decide +kernel
theorem dX12_truth_27 : decode cX12_truth 27 = .ok (.iconst 1, 1) := by decide +kernel
theorem dX12_truth_28 : decode cX12_truth 28 = .ok (.iadd, 1) := by decide +kernel
theorem dX12_truth_29 : decode cX12_truth 29 = .ok (.putfield 135, 3) := by decide +kernel
theorem dX12_truth_32 : decode cX12_truth 32 = .ok (.aload_n 0, 1) := by decide +kernel
theorem dX12_truth_33 : decode cX12_truth 33 = .ok (.iconst 0, 1) := by decide +kernel
theorem dX12_truth_34 : decode cX12_truth 34 = .ok (.invokevirtual 233, 3) := by decide +kernel
theorem dX12_truth_37 : decode cX12_truth 37 = .ok (.aload_n 0, 1) := by decide +kernel
theorem dX12_truth_38 : decode cX12_truth 38 = .ok (.bipush 38, 2) := by decide +kernel
theorem dX12_truth_40 : decode cX12_truth 40 = .ok (.invokevirtual 211, 3) := by decide +kernel
theorem dX12_truth_43 : decode cX12_truth 43 = .ok (.goto (-38), 3) := by decide +kernel
theorem dX12_truth_46 : decode cX12_truth 46 = .ok (.return_, 1) := by decide +kernel
theorem dX12_condition_0 : decode cX12_condition 0 = .ok (.aload_n 0, 1) := by decide +kernel
theorem dX12_condition_1 : decode cX12_condition 1 = .ok (.iload_n 1, 1) := by decide +kernel
theorem dX12_condition_2 : decode cX12_condition 2 = .ok (.invokevirtual 240, 3) := by decide +kernel
theorem dX12_condition_5 : decode cX12_condition 5 = .ok (.aload_n 0, 1) := by decide +kernel
theorem dX12_condition_6 : decode cX12_condition 6 = .ok (.getfield 142, 3) := by decide +kernel
theorem dX12_condition_9 : decode cX12_condition 9 = .ok (.iconst (-1), 1) := by decide +kernel
theorem dX12_condition_10 : decode cX12_condition 10 = .ok (.if_icmp .ne 36, 3) := by decide +kernel
theorem dX12_condition_13 : decode cX12_condition 13 = .ok (.aload_n 0, 1) := by decide +kernel
theorem dX12_condition_14 : decode cX12_condition 14 = .ok (.invokevirtual 180, 3) := by decide +kernel
theorem dX12_condition_17 : decode cX12_condition 17 = .ok (.bipush 124, 2) := by decide +kernel
theorem dX12_condition_19 : decode cX12_condition 19 = .ok (.if_icmp .ne 27, 3) := by decide +kernel
theorem dX12_condition_22 : decode cX12_condition 22 = .ok (.aload_n 0, 1) := by decide +kernel
theorem dX12_condition_23 : decode cX12_condition 23 = .ok (.dup, 1) := by decide +kernel
theorem dX12_condition_24 : decode cX12_condition 24 = .ok (.getfield 135, 3) := by decide +kernel
theorem dX12_condition_27 : decode cX12_condition 27 = .ok (.iconst 1, 1) := by decide +kernel
theorem dX12_condition_28 : decode cX12_condition 28 = .ok (.iadd, 1) := by decide +kernel
theorem dX12_condition_29 : decode cX12_condition 29 = .ok (.putfield 135, 3) := by decide +kernel
theorem dX12_condition_32 : decode cX12_condition 32 = .ok (.aload_n 0, 1) := by decide +kernel
theorem dX12_condition_33 : decode cX12_condition 33 = .ok (.iconst 0, 1) := by decide +kernel
theorem dX12_condition_34 : decode cX12_condition 34 = .ok (.invokevirtual 240, 3) := by decide +kernel
theorem dX12_condition_37 : decode cX12_condition 37 = .ok (.aload_n 0, 1) := by decide +kernel
theorem dX12_condition_38 : decode cX12_condition 38 = .ok (.bipush 124, 2) := by decide +kernel
theorem dX12_condition_40 : decode cX12_condition 40 = .ok (.invokevirtual 211, 3) := by decide +kernel
theorem dX12_condition_43 : decode cX12_condition 43 = .ok (.goto (-38), 3) := by decide +kernel
theorem dX12_condition_46 : decode cX12_condition 46 = .ok (.return_, 1) := by decide +kernel
theorem dX12_clause_0 : decode cX12_clause 0 = .ok (.bipush 64, 2) := by decide +kernel
theorem dX12_clause_2 : decode cX12_clause 2 = .ok (.aload_n 0, 1) := by decide +kernel
theorem dX12_clause_3 : decode cX12_clause 3 = .ok (.getfield 205, 3) := by decide +kernel
theorem dX12_clause_6 : decode cX12_clause 6 = .ok (.imul, 1) := by decide +kernel
theorem dX12_clause_7 : decode cX12_clause 7 = .ok (.aload_n 0, 1) := by decide +kernel
theorem dX12_clause_8 : decode cX12_clause 8 = .ok (.getfield 64, 3) := by decide +kernel
theorem dX12_clause_11 : decode cX12_clause 11 = .ok (.aload_n 0, 1) := by decide +kernel
theorem dX12_clause_12 : decode cX12_clause 12 = .ok (.getfield 205, 3) := by decide +kernel
theorem dX12_clause_15 : decode cX12_clause 15 = .ok (.iaload, 1) := by decide +kernel
theorem dX12_clause_16 : decode cX12_clause 16 = .ok (.iadd, 1) := by decide +kernel
theorem dX12_clause_17 : decode cX12_clause 17 = .ok (.istore_n 1, 1) := by decide +kernel
theorem dX12_clause_18 : decode cX12_clause 18 = .ok (.aload_n 0, 1) := by decide +kernel
theorem dX12_clause_19 : decode cX12_clause 19 = .ok (.invokevirtual 180, 3) := by decide +kernel
theorem dX12_clause_22 : decode cX12_clause 22 = .ok (.bipush 119, 2) := by decide +kernel
theorem dX12_clause_24 : decode cX12_clause 24 = .ok (.if_icmp .eq 8, 3) := by decide +kernel
theorem dX12_clause_27 : decode cX12_clause 27 = .ok (.aload_n 0, 1) := by decide +kernel
theorem dX12_clause_28 : decode cX12_clause 28 = .ok (.invokevirtual 164, 3) := by decide +kernel
theorem dX12_clause_31 : decode cX12_clause 31 = .ok (.return_, 1) := by decide +kernel
theorem dX12_clause_32 : decode cX12_clause 32 = .ok (.aload_n 0, 1) := by decide +kernel
theorem dX12_clause_33 : decode cX12_clause 33 = .ok (.dup, 1) := by decide +kernel
theorem dX12_clause_34 : decode cX12_clause 34 = .ok (.getfield 135, 3) := by decide +kernel
theorem dX12_clause_37 : decode cX12_clause 37 = .ok (.iconst 1, 1) := by decide +kernel
theorem dX12_clause_38 : decode cX12_clause 38 = .ok (.iadd, 1) := by decide +kernel
theorem dX12_clause_39 : decode cX12_clause 39 = .ok (.putfield 135, 3) := by decide +kernel
theorem dX12_clause_42 : decode cX12_clause 42 = .ok (.aload_n 0, 1) := by decide +kernel
theorem dX12_clause_43 : decode cX12_clause 43 = .ok (.invokevirtual 180, 3) := by decide +kernel
theorem dX12_clause_46 : decode cX12_clause 46 = .ok (.bipush 58, 2) := by decide +kernel
theorem dX12_clause_48 : decode cX12_clause 48 = .ok (.if_icmp .eq 8, 3) := by decide +kernel
theorem dX12_clause_51 : decode cX12_clause 51 = .ok (.aload_n 0, 1) := by decide +kernel
theorem dX12_clause_52 : decode cX12_clause 52 = .ok (.invokevirtual 164, 3) := by decide +kernel
theorem dX12_clause_55 : decode cX12_clause 55 = .ok (.return_, 1) := by decide +kernel
theorem dX12_clause_56 : decode cX12_clause 56 = .ok (.aload_n 0, 1) := by decide +kernel
theorem dX12_clause_57 : decode cX12_clause 57 = .ok (.dup, 1) := by decide +kernel
theorem dX12_clause_58 : decode cX12_clause 58 = .ok (.getfield 135, 3) := by decide +kernel
theorem dX12_clause_61 : decode cX12_clause 61 = .ok (.iconst 1, 1) := by decide +kernel
theorem dX12_clause_62 : decode cX12_clause 62 = .ok (.iadd, 1) := by decide +kernel
theorem dX12_clause_63 : decode cX12_clause 63 = .ok (.putfield 135, 3) := by decide +kernel
theorem dX12_clause_66 : decode cX12_clause 66 = .ok (.aload_n 0, 1) := by decide +kernel
theorem dX12_clause_67 : decode cX12_clause 67 = .ok (.getfield 64, 3) := by decide +kernel
theorem dX12_clause_70 : decode cX12_clause 70 = .ok (.aload_n 0, 1) := by decide +kernel
theorem dX12_clause_71 : decode cX12_clause 71 = .ok (.getfield 205, 3) := by decide +kernel
theorem dX12_clause_74 : decode cX12_clause 74 = .ok (.dup2, 1) := by decide +kernel
theorem dX12_clause_75 : decode cX12_clause 75 = .ok (.iaload, 1) := by decide +kernel
theorem dX12_clause_76 : decode cX12_clause 76 = .ok (.iconst 1, 1) := by decide +kernel
theorem dX12_clause_77 : decode cX12_clause 77 = .ok (.iadd, 1) := by decide +kernel
theorem dX12_clause_78 : decode cX12_clause 78 = .ok (.iastore, 1) := by decide +kernel
theorem dX12_clause_79 : decode cX12_clause 79 = .ok (.aload_n 0, 1) := by decide +kernel
theorem dX12_clause_80 : decode cX12_clause 80 = .ok (.getfield 67, 3) := by decide +kernel
theorem dX12_clause_83 : decode cX12_clause 83 = .ok (.iload_n 1, 1) := by decide +kernel
theorem dX12_clause_84 : decode cX12_clause 84 = .ok (.aload_n 0, 1) := by decide +kernel
theorem dX12_clause_85 : decode cX12_clause 85 = .ok (.getfield 208, 3) := by decide +kernel
theorem dX12_clause_88 : decode cX12_clause 88 = .ok (.iastore, 1) := by decide +kernel
theorem dX12_clause_89 : decode cX12_clause 89 = .ok (.aload_n 0, 1) := by decide +kernel
theorem dX12_clause_90 : decode cX12_clause 90 = .ok (.invokevirtual 180, 3) := by decide +kernel
theorem dX12_clause_93 : decode cX12_clause 93 = .ok (.istore_n 2, 1) := by decide +kernel
theorem dX12_clause_94 : decode cX12_clause 94 = .ok (.iload_n 2, 1) := by decide +kernel
theorem dX12_clause_95 : decode cX12_clause 95 = .ok (.bipush 33, 2) := by decide +kernel
theorem dX12_clause_97 : decode cX12_clause 97 = .ok (.if_icmp .eq 9, 3) := by decide +kernel
theorem dX12_clause_100 : decode cX12_clause 100 = .ok (.iload_n 2, 1) := by decide +kernel
theorem dX12_clause_101 : decode cX12_clause 101 = .ok (.bipush 40, 2) := by decide +kernel
theorem dX12_clause_103 : decode cX12_clause 103 = .ok (.if_icmp .ne 7, 3) := by decide +kernel
theorem dX12_clause_106 : decode cX12_clause 106 = .ok (.iconst 1, 1) := by decide +kernel
theorem dX12_clause_107 : decode cX12_clause 107 = .ok (.goto 4, 3) := by decide +kernel
theorem dX12_clause_110 : decode cX12_clause 110 = .ok (.iconst 0, 1) := by decide +kernel
theorem dX12_clause_111 : decode cX12_clause 111 = .ok (.istore_n 3, 1) := by decide +kernel
theorem dX12_clause_112 : decode cX12_clause 112 = .ok (.iload_n 3, 1) := by decide +kernel
theorem dX12_clause_113 : decode cX12_clause 113 = .ok (.ifCond .eq 11, 3) := by decide +kernel
theorem dX12_clause_116 : decode cX12_clause 116 = .ok (.aload_n 0, 1) := by decide +kernel
theorem dX12_clause_117 : decode cX12_clause 117 = .ok (.iconst 0, 1) := by decide +kernel
theorem dX12_clause_118 : decode cX12_clause 118 = .ok (.invokevirtual 237, 3) := by decide +kernel
theorem dX12_clause_121 : decode cX12_clause 121 = .ok (.goto 57, 3) := by decide +kernel
theorem dX12_clause_124 : decode cX12_clause 124 = .ok (.aload_n 0, 1) := by decide +kernel
theorem dX12_clause_125 : decode cX12_clause 125 = .ok (.invokevirtual 221, 3) := by decide +kernel
theorem dX12_clause_128 : decode cX12_clause 128 = .ok (.aload_n 0, 1) := by decide +kernel
theorem dX12_clause_129 : decode cX12_clause 129 = .ok (.getfield 142, 3) := by decide +kernel
theorem dX12_clause_132 : decode cX12_clause 132 = .ok (.iconst (-1), 1) := by decide +kernel
theorem dX12_clause_133 : decode cX12_clause 133 = .ok (.if_icmp .ne 10, 3) := by decide +kernel
theorem dX12_clause_136 : decode cX12_clause 136 = .ok (.aload_n 0, 1) := by decide +kernel
theorem dX12_clause_137 : decode cX12_clause 137 = .ok (.invokevirtual 180, 3) := by decide +kernel
theorem dX12_clause_140 : decode cX12_clause 140 = .ok (.goto 4, 3) := by decide +kernel
theorem dX12_clause_143 : decode cX12_clause 143 = .ok (.iconst (-1), 1) := by decide +kernel
theorem dX12_clause_144 : decode cX12_clause 144 = .ok (.istore_n 2, 1) := by decide +kernel
theorem dX12_clause_145 : decode cX12_clause 145 = .ok (.iload_n 2, 1) := by decide +kernel
theorem dX12_clause_146 : decode cX12_clause 146 = .ok (.bipush 61, 2) := by decide +kernel
theorem dX12_clause_148 : decode cX12_clause 148 = .ok (.if_icmp .eq 15, 3) := by decide +kernel
theorem dX12_clause_151 : decode cX12_clause 151 = .ok (.iload_n 2, 1) := by decide +kernel
theorem dX12_clause_152 : decode cX12_clause 152 = .ok (.bipush 60, 2) := by decide +kernel
theorem dX12_clause_154 : decode cX12_clause 154 = .ok (.if_icmp .eq 9, 3) := by decide +kernel
theorem dX12_clause_157 : decode cX12_clause 157 = .ok (.iload_n 2, 1) := by decide +kernel
theorem dX12_clause_158 : decode cX12_clause 158 = .ok (.bipush 62, 2) := by decide +kernel
theorem dX12_clause_160 : decode cX12_clause 160 = .ok (.if_icmp .ne 7, 3) := by decide +kernel
theorem dX12_clause_163 : decode cX12_clause 163 = .ok (.iconst 1, 1) := by decide +kernel
theorem dX12_clause_164 : decode cX12_clause 164 = .ok (.goto 4, 3) := by decide +kernel
theorem dX12_clause_167 : decode cX12_clause 167 = .ok (.iconst 0, 1) := by decide +kernel
theorem dX12_clause_168 : decode cX12_clause 168 = .ok (.istore_n 3, 1) := by decide +kernel
theorem dX12_clause_169 : decode cX12_clause 169 = .ok (.iload_n 3, 1) := by decide +kernel
theorem dX12_clause_170 : decode cX12_clause 170 = .ok (.ifCond .eq 8, 3) := by decide +kernel
theorem dX12_clause_173 : decode cX12_clause 173 = .ok (.aload_n 0, 1) := by decide +kernel
theorem dX12_clause_174 : decode cX12_clause 174 = .ok (.iconst 1, 1) := by decide +kernel
theorem dX12_clause_175 : decode cX12_clause 175 = .ok (.invokevirtual 237, 3) := by decide +kernel
theorem dX12_clause_178 : decode cX12_clause 178 = .ok (.aload_n 0, 1) := by decide +kernel
theorem dX12_clause_179 : decode cX12_clause 179 = .ok (.getfield 142, 3) := by decide +kernel
theorem dX12_clause_182 : decode cX12_clause 182 = .ok (.iconst (-1), 1) := by decide +kernel
theorem dX12_clause_183 : decode cX12_clause 183 = .ok (.if_icmp .ne 45, 3) := by decide +kernel
theorem dX12_clause_186 : decode cX12_clause 186 = .ok (.iload_n 3, 1) := by decide +kernel
theorem dX12_clause_187 : decode cX12_clause 187 = .ok (.ifCond .eq 41, 3) := by decide +kernel
theorem dX12_clause_190 : decode cX12_clause 190 = .ok (.aload_n 0, 1) := by decide +kernel
theorem dX12_clause_191 : decode cX12_clause 191 = .ok (.invokevirtual 180, 3) := by decide +kernel
theorem dX12_clause_194 : decode cX12_clause 194 = .ok (.bipush 63, 2) := by decide +kernel
theorem dX12_clause_196 : decode cX12_clause 196 = .ok (.if_icmp .eq 8, 3) := by decide +kernel
theorem dX12_clause_199 : decode cX12_clause 199 = .ok (.aload_n 0, 1) := by decide +kernel
theorem dX12_clause_200 : decode cX12_clause 200 = .ok (.invokevirtual 164, 3) := by decide +kernel
theorem dX12_clause_203 : decode cX12_clause 203 = .ok (.return_, 1) := by decide +kernel
theorem dX12_clause_204 : decode cX12_clause 204 = .ok (.aload_n 0, 1) := by decide +kernel
theorem dX12_clause_205 : decode cX12_clause 205 = .ok (.dup, 1) := by decide +kernel
theorem dX12_clause_206 : decode cX12_clause 206 = .ok (.getfield 135, 3) := by decide +kernel
theorem dX12_clause_209 : decode cX12_clause 209 = .ok (.iconst 1, 1) := by decide +kernel
theorem dX12_clause_210 : decode cX12_clause 210 = .ok (.iadd, 1) := by decide +kernel
theorem dX12_clause_211 : decode cX12_clause 211 = .ok (.putfield 135, 3) := by decide +kernel
theorem dX12_clause_214 : decode cX12_clause 214 = .ok (.aload_n 0, 1) := by decide +kernel
theorem dX12_clause_215 : decode cX12_clause 215 = .ok (.getfield 67, 3) := by decide +kernel
theorem dX12_clause_218 : decode cX12_clause 218 = .ok (.iload_n 1, 1) := by decide +kernel
theorem dX12_clause_219 : decode cX12_clause 219 = .ok (.aload_n 0, 1) := by decide +kernel
theorem dX12_clause_220 : decode cX12_clause 220 = .ok (.getfield 208, 3) := by decide +kernel
theorem dX12_clause_223 : decode cX12_clause 223 = .ok (.iastore, 1) := by decide +kernel
theorem dX12_clause_224 : decode cX12_clause 224 = .ok (.aload_n 0, 1) := by decide +kernel
theorem dX12_clause_225 : decode cX12_clause 225 = .ok (.invokevirtual 221, 3) := by decide +kernel
theorem dX12_clause_228 : decode cX12_clause 228 = .ok (.aload_n 0, 1) := by decide +kernel
theorem dX12_clause_229 : decode cX12_clause 229 = .ok (.getfield 70, 3) := by decide +kernel
theorem dX12_clause_232 : decode cX12_clause 232 = .ok (.iload_n 1, 1) := by decide +kernel
theorem dX12_clause_233 : decode cX12_clause 233 = .ok (.aload_n 0, 1) := by decide +kernel
theorem dX12_clause_234 : decode cX12_clause 234 = .ok (.getfield 208, 3) := by decide +kernel
theorem dX12_clause_237 : decode cX12_clause 237 = .ok (.iastore, 1) := by decide +kernel
theorem dX12_clause_238 : decode cX12_clause 238 = .ok (.return_, 1) := by decide +kernel
theorem dX12_readRule_0 : decode cX12_readRule 0 = .ok (.aload_n 0, 1) := by decide +kernel
theorem dX12_readRule_1 : decode cX12_readRule 1 = .ok (.iload_n 1, 1) := by decide +kernel
theorem dX12_readRule_2 : decode cX12_readRule 2 = .ok (.putfield 205, 3) := by decide +kernel
theorem dX12_readRule_5 : decode cX12_readRule 5 = .ok (.aload_n 0, 1) := by decide +kernel
theorem dX12_readRule_6 : decode cX12_readRule 6 = .ok (.iconst 0, 1) := by decide +kernel
theorem dX12_readRule_7 : decode cX12_readRule 7 = .ok (.putfield 135, 3) := by decide +kernel
theorem dX12_readRule_10 : decode cX12_readRule 10 = .ok (.aload_n 0, 1) := by decide +kernel
theorem dX12_readRule_11 : decode cX12_readRule 11 = .ok (.iconst (-1), 1) := by decide +kernel
theorem dX12_readRule_12 : decode cX12_readRule 12 = .ok (.putfield 142, 3) := by decide +kernel
theorem dX12_readRule_15 : decode cX12_readRule 15 = .ok (.aload_n 0, 1) := by decide +kernel
theorem dX12_readRule_16 : decode cX12_readRule 16 = .ok (.iconst 0, 1) := by decide +kernel
theorem dX12_readRule_17 : decode cX12_readRule 17 = .ok (.putfield 193, 3) := by decide +kernel
theorem dX12_readRule_20 : decode cX12_readRule 20 = .ok (.aload_n 0, 1) := by decide +kernel
theorem dX12_readRule_21 : decode cX12_readRule 21 = .ok (.iconst 0, 1) := by decide +kernel
theorem dX12_readRule_22 : decode cX12_readRule 22 = .ok (.putfield 208, 3) := by decide +kernel
theorem dX12_readRule_25 : decode cX12_readRule 25 = .ok (.aload_n 0, 1) := by decide +kernel
theorem dX12_readRule_26 : decode cX12_readRule 26 = .ok (.getfield 64, 3) := by decide +kernel
theorem dX12_readRule_29 : decode cX12_readRule 29 = .ok (.iload_n 1, 1) := by decide +kernel
theorem dX12_readRule_30 : decode cX12_readRule 30 = .ok (.iconst 0, 1) := by decide +kernel
theorem dX12_readRule_31 : decode cX12_readRule 31 = .ok (.iastore, 1) := by decide +kernel
theorem dX12_readRule_32 : decode cX12_readRule 32 = .ok (.aload_n 0, 1) := by decide +kernel
theorem dX12_readRule_33 : decode cX12_readRule 33 = .ok (.invokevirtual 243, 3) := by decide +kernel
theorem dX12_readRule_36 : decode cX12_readRule 36 = .ok (.aload_n 0, 1) := by decide +kernel
theorem dX12_readRule_37 : decode cX12_readRule 37 = .ok (.getfield 142, 3) := by decide +kernel
theorem dX12_readRule_40 : decode cX12_readRule 40 = .ok (.iconst (-1), 1) := by decide +kernel
theorem dX12_readRule_41 : decode cX12_readRule 41 = .ok (.if_icmp .ne 29, 3) := by decide +kernel
theorem dX12_readRule_44 : decode cX12_readRule 44 = .ok (.aload_n 0, 1) := by decide +kernel
theorem dX12_readRule_45 : decode cX12_readRule 45 = .ok (.invokevirtual 180, 3) := by decide +kernel
theorem dX12_readRule_48 : decode cX12_readRule 48 = .ok (.bipush 59, 2) := by decide +kernel
theorem dX12_readRule_50 : decode cX12_readRule 50 = .ok (.if_icmp .ne 20, 3) := by decide +kernel
theorem dX12_readRule_53 : decode cX12_readRule 53 = .ok (.aload_n 0, 1) := by decide +kernel
theorem dX12_readRule_54 : decode cX12_readRule 54 = .ok (.dup, 1) := by decide +kernel
theorem dX12_readRule_55 : decode cX12_readRule 55 = .ok (.getfield 135, 3) := by decide +kernel
theorem dX12_readRule_58 : decode cX12_readRule 58 = .ok (.iconst 1, 1) := by decide +kernel
theorem dX12_readRule_59 : decode cX12_readRule 59 = .ok (.iadd, 1) := by decide +kernel
theorem dX12_readRule_60 : decode cX12_readRule 60 = .ok (.putfield 135, 3) := by decide +kernel
theorem dX12_readRule_63 : decode cX12_readRule 63 = .ok (.aload_n 0, 1) := by decide +kernel
theorem dX12_readRule_64 : decode cX12_readRule 64 = .ok (.invokevirtual 243, 3) := by decide +kernel
theorem dX12_readRule_67 : decode cX12_readRule 67 = .ok (.goto (-31), 3) := by decide +kernel
theorem dX12_readRule_70 : decode cX12_readRule 70 = .ok (.aload_n 0, 1) := by decide +kernel
theorem dX12_readRule_71 : decode cX12_readRule 71 = .ok (.getfield 142, 3) := by decide +kernel
theorem dX12_readRule_74 : decode cX12_readRule 74 = .ok (.iconst (-1), 1) := by decide +kernel
theorem dX12_readRule_75 : decode cX12_readRule 75 = .ok (.if_icmp .ne 15, 3) := by decide +kernel
theorem dX12_readRule_78 : decode cX12_readRule 78 = .ok (.aload_n 0, 1) := by decide +kernel
theorem dX12_readRule_79 : decode cX12_readRule 79 = .ok (.invokevirtual 180, 3) := by decide +kernel
theorem dX12_readRule_82 : decode cX12_readRule 82 = .ok (.iconst (-1), 1) := by decide +kernel
theorem dX12_readRule_83 : decode cX12_readRule 83 = .ok (.if_icmp .eq 7, 3) := by decide +kernel
theorem dX12_readRule_86 : decode cX12_readRule 86 = .ok (.aload_n 0, 1) := by decide +kernel
theorem dX12_readRule_87 : decode cX12_readRule 87 = .ok (.invokevirtual 164, 3) := by decide +kernel
theorem dX12_readRule_90 : decode cX12_readRule 90 = .ok (.aload_n 0, 1) := by decide +kernel
theorem dX12_readRule_91 : decode cX12_readRule 91 = .ok (.getfield 142, 3) := by decide +kernel
theorem dX12_readRule_94 : decode cX12_readRule 94 = .ok (.ireturn, 1) := by decide +kernel
theorem dX12_fault_0 : decode cX12_fault 0 = .ok (.iload_n 1, 1) := by decide +kernel
theorem dX12_fault_1 : decode cX12_fault 1 = .ok (.ifCond .ne 12, 3) := by decide +kernel
theorem dX12_fault_4 : decode cX12_fault 4 = .ok (.aload_n 0, 1) := by decide +kernel
theorem dX12_fault_5 : decode cX12_fault 5 = .ok (.bipush 12, 2) := by decide +kernel
theorem dX12_fault_7 : decode cX12_fault 7 = .ok (.invokevirtual 246, 3) := by decide +kernel
theorem dX12_fault_10 : decode cX12_fault 10 = .ok (.goto 19, 3) := by decide +kernel
theorem dX12_fault_13 : decode cX12_fault 13 = .ok (.iload_n 1, 1) := by decide +kernel
theorem dX12_fault_14 : decode cX12_fault 14 = .ok (.iconst 1, 1) := by decide +kernel
theorem dX12_fault_15 : decode cX12_fault 15 = .ok (.if_icmp .ne 12, 3) := by decide +kernel
theorem dX12_fault_18 : decode cX12_fault 18 = .ok (.aload_n 0, 1) := by decide +kernel
theorem dX12_fault_19 : decode cX12_fault 19 = .ok (.bipush 6, 2) := by decide +kernel
theorem dX12_fault_21 : decode cX12_fault 21 = .ok (.invokevirtual 249, 3) := by decide +kernel
theorem dX12_fault_24 : decode cX12_fault 24 = .ok (.goto 5, 3) := by decide +kernel
theorem dX12_fault_27 : decode cX12_fault 27 = .ok (.bipush (-2), 2) := by decide +kernel
theorem dX12_fault_29 : decode cX12_fault 29 = .ok (.ireturn, 1) := by decide +kernel
theorem dX12_figure_0 : decode cX12_figure 0 = .ok (.aload_n 0, 1) := by decide +kernel
theorem dX12_figure_1 : decode cX12_figure 1 = .ok (.getfield 252, 3) := by decide +kernel
theorem dX12_figure_4 : decode cX12_figure 4 = .ok (.bipush 12, 2) := by decide +kernel
theorem dX12_figure_6 : decode cX12_figure 6 = .ok (.if_icmp .eq 15, 3) := by decide +kernel
theorem dX12_figure_9 : decode cX12_figure 9 = .ok (.aload_n 0, 1) := by decide +kernel
theorem dX12_figure_10 : decode cX12_figure 10 = .ok (.aload_n 0, 1) := by decide +kernel
theorem dX12_figure_11 : decode cX12_figure 11 = .ok (.getfield 252, 3) := by decide +kernel
theorem dX12_figure_14 : decode cX12_figure 14 = .ok (.invokevirtual 246, 3) := by decide +kernel
theorem dX12_figure_17 : decode cX12_figure 17 = .ok (.iconst (-1), 1) := by decide +kernel
theorem dX12_figure_18 : decode cX12_figure 18 = .ok (.if_icmp .eq 5, 3) := by decide +kernel
theorem dX12_figure_21 : decode cX12_figure 21 = .ok (.iconst (-1), 1) := by decide +kernel
theorem dX12_figure_22 : decode cX12_figure 22 = .ok (.ireturn, 1) := by decide +kernel
theorem dX12_figure_23 : decode cX12_figure 23 = .ok (.aload_n 0, 1) := by decide +kernel
theorem dX12_figure_24 : decode cX12_figure 24 = .ok (.iconst 0, 1) := by decide +kernel
theorem dX12_figure_25 : decode cX12_figure 25 = .ok (.putfield 132, 3) := by decide +kernel
theorem dX12_figure_28 : decode cX12_figure 28 = .ok (.aload_n 0, 1) := by decide +kernel
theorem dX12_figure_29 : decode cX12_figure 29 = .ok (.dup, 1) := by decide +kernel
theorem dX12_figure_30 : decode cX12_figure 30 = .ok (.getfield 252, 3) := by decide +kernel
theorem dX12_figure_33 : decode cX12_figure 33 = .ok (.iconst 1, 1) := by decide +kernel
theorem dX12_figure_34 : decode cX12_figure 34 = .ok (.iadd, 1) := by decide +kernel
theorem dX12_figure_35 : decode cX12_figure 35 = .ok (.putfield 252, 3) := by decide +kernel
theorem dX12_figure_38 : decode cX12_figure 38 = .ok (.aload_n 0, 1) := by decide +kernel
theorem dX12_figure_39 : decode cX12_figure 39 = .ok (.getfield 252, 3) := by decide +kernel
theorem dX12_figure_42 : decode cX12_figure 42 = .ok (.iconst 1, 1) := by decide +kernel
theorem dX12_figure_43 : decode cX12_figure 43 = .ok (.isub, 1) := by decide +kernel
theorem dX12_figure_44 : decode cX12_figure 44 = .ok (.ireturn, 1) := by decide +kernel
theorem dX12_rule_0 : decode cX12_rule 0 = .ok (.aload_n 0, 1) := by decide +kernel
theorem dX12_rule_1 : decode cX12_rule 1 = .ok (.getfield 255, 3) := by decide +kernel
theorem dX12_rule_4 : decode cX12_rule 4 = .ok (.bipush 6, 2) := by decide +kernel
theorem dX12_rule_6 : decode cX12_rule 6 = .ok (.if_icmp .eq 15, 3) := by decide +kernel
theorem dX12_rule_9 : decode cX12_rule 9 = .ok (.aload_n 0, 1) := by decide +kernel
theorem dX12_rule_10 : decode cX12_rule 10 = .ok (.aload_n 0, 1) := by decide +kernel
theorem dX12_rule_11 : decode cX12_rule 11 = .ok (.getfield 255, 3) := by decide +kernel
theorem dX12_rule_14 : decode cX12_rule 14 = .ok (.invokevirtual 249, 3) := by decide +kernel
theorem dX12_rule_17 : decode cX12_rule 17 = .ok (.iconst (-1), 1) := by decide +kernel
theorem dX12_rule_18 : decode cX12_rule 18 = .ok (.if_icmp .eq 5, 3) := by decide +kernel
theorem dX12_rule_21 : decode cX12_rule 21 = .ok (.iconst (-1), 1) := by decide +kernel
theorem dX12_rule_22 : decode cX12_rule 22 = .ok (.ireturn, 1) := by decide +kernel
theorem dX12_rule_23 : decode cX12_rule 23 = .ok (.aload_n 0, 1) := by decide +kernel
theorem dX12_rule_24 : decode cX12_rule 24 = .ok (.iconst 0, 1) := by decide +kernel
theorem dX12_rule_25 : decode cX12_rule 25 = .ok (.putfield 132, 3) := by decide +kernel
theorem dX12_rule_28 : decode cX12_rule 28 = .ok (.aload_n 0, 1) := by decide +kernel
theorem dX12_rule_29 : decode cX12_rule 29 = .ok (.dup, 1) := by decide +kernel
theorem dX12_rule_30 : decode cX12_rule 30 = .ok (.getfield 255, 3) := by decide +kernel
theorem dX12_rule_33 : decode cX12_rule 33 = .ok (.iconst 1, 1) := by decide +kernel
theorem dX12_rule_34 : decode cX12_rule 34 = .ok (.iadd, 1) := by decide +kernel
theorem dX12_rule_35 : decode cX12_rule 35 = .ok (.putfield 255, 3) := by decide +kernel
theorem dX12_rule_38 : decode cX12_rule 38 = .ok (.aload_n 0, 1) := by decide +kernel
theorem dX12_rule_39 : decode cX12_rule 39 = .ok (.getfield 255, 3) := by decide +kernel
theorem dX12_rule_42 : decode cX12_rule 42 = .ok (.iconst 1, 1) := by decide +kernel
theorem dX12_rule_43 : decode cX12_rule 43 = .ok (.isub, 1) := by decide +kernel
theorem dX12_rule_44 : decode cX12_rule 44 = .ok (.ireturn, 1) := by decide +kernel
theorem dX12_within_0 : decode cX12_within 0 = .ok (.ldc2_w 258, 3) := by decide +kernel
theorem dX12_within_3 : decode cX12_within 3 = .ok (.ldc2_w 260, 3) := by decide +kernel
theorem dX12_within_6 : decode cX12_within 6 = .ok (.lload_n 0, 1) := by decide +kernel
theorem dX12_within_7 : decode cX12_within 7 = .ok (.invokestatic 262, 3) := by decide +kernel
theorem dX12_within_10 : decode cX12_within 10 = .ok (.invokestatic 265, 3) := by decide +kernel
theorem dX12_within_13 : decode cX12_within 13 = .ok (.lreturn, 1) := by decide +kernel
theorem dX12_both_0 : decode cX12_both 0 = .ok (.iload_n 0, 1) := by decide +kernel
theorem dX12_both_1 : decode cX12_both 1 = .ok (.tableswitch 205 38 62 #[189, 205, 205, 205, 129, 115, 205, 122, 205, 136, 205, 205, 205, 205, 205, 205, 205, 205, 205, 205, 205, 205, 165, 153, 177], 115) := by decide +kernel
theorem dX12_both_116 : decode cX12_both 116 = .ok (.lload_n 1, 1) := by decide +kernel
theorem dX12_both_117 : decode cX12_both 117 = .ok (.lload_n 3, 1) := by decide +kernel
theorem dX12_both_118 : decode cX12_both 118 = .ok (.ladd, 1) := by decide +kernel
theorem dX12_both_119 : decode cX12_both 119 = .ok (.invokestatic 267, 3) := by decide +kernel
theorem dX12_both_122 : decode cX12_both 122 = .ok (.lreturn, 1) := by decide +kernel
theorem dX12_both_123 : decode cX12_both 123 = .ok (.lload_n 1, 1) := by decide +kernel
theorem dX12_both_124 : decode cX12_both 124 = .ok (.lload_n 3, 1) := by decide +kernel
theorem dX12_both_125 : decode cX12_both 125 = .ok (.lsub, 1) := by decide +kernel
theorem dX12_both_126 : decode cX12_both 126 = .ok (.invokestatic 267, 3) := by decide +kernel
theorem dX12_both_129 : decode cX12_both 129 = .ok (.lreturn, 1) := by decide +kernel
theorem dX12_both_130 : decode cX12_both 130 = .ok (.lload_n 1, 1) := by decide +kernel
theorem dX12_both_131 : decode cX12_both 131 = .ok (.lload_n 3, 1) := by decide +kernel
theorem dX12_both_132 : decode cX12_both 132 = .ok (.lmul, 1) := by decide +kernel
theorem dX12_both_133 : decode cX12_both 133 = .ok (.invokestatic 267, 3) := by decide +kernel
theorem dX12_both_136 : decode cX12_both 136 = .ok (.lreturn, 1) := by decide +kernel
theorem dX12_both_137 : decode cX12_both 137 = .ok (.lload_n 3, 1) := by decide +kernel
theorem dX12_both_138 : decode cX12_both 138 = .ok (.lconst 0, 1) := by decide +kernel
theorem dX12_both_139 : decode cX12_both 139 = .ok (.lcmp, 1) := by decide +kernel
theorem dX12_both_140 : decode cX12_both 140 = .ok (.ifCond .ne 7, 3) := by decide +kernel
theorem dX12_both_143 : decode cX12_both 143 = .ok (.lconst 0, 1) := by decide +kernel
theorem dX12_both_144 : decode cX12_both 144 = .ok (.goto 9, 3) := by decide +kernel
theorem dX12_both_147 : decode cX12_both 147 = .ok (.lload_n 1, 1) := by decide +kernel
theorem dX12_both_148 : decode cX12_both 148 = .ok (.lload_n 3, 1) := by decide +kernel
theorem dX12_both_149 : decode cX12_both 149 = .ok (.ldiv, 1) := by decide +kernel
theorem dX12_both_150 : decode cX12_both 150 = .ok (.invokestatic 267, 3) := by decide +kernel
theorem dX12_both_153 : decode cX12_both 153 = .ok (.lreturn, 1) := by decide +kernel
theorem dX12_both_154 : decode cX12_both 154 = .ok (.lload_n 1, 1) := by decide +kernel
theorem dX12_both_155 : decode cX12_both 155 = .ok (.lload_n 3, 1) := by decide +kernel
theorem dX12_both_156 : decode cX12_both 156 = .ok (.lcmp, 1) := by decide +kernel
theorem dX12_both_157 : decode cX12_both 157 = .ok (.ifCond .ne 7, 3) := by decide +kernel
theorem dX12_both_160 : decode cX12_both 160 = .ok (.lconst 1, 1) := by decide +kernel
theorem dX12_both_161 : decode cX12_both 161 = .ok (.goto 4, 3) := by decide +kernel
theorem dX12_both_164 : decode cX12_both 164 = .ok (.lconst 0, 1) := by decide +kernel
theorem dX12_both_165 : decode cX12_both 165 = .ok (.lreturn, 1) := by decide +kernel
theorem dX12_both_166 : decode cX12_both 166 = .ok (.lload_n 1, 1) := by decide +kernel
theorem dX12_both_167 : decode cX12_both 167 = .ok (.lload_n 3, 1) := by decide +kernel
theorem dX12_both_168 : decode cX12_both 168 = .ok (.lcmp, 1) := by decide +kernel
theorem dX12_both_169 : decode cX12_both 169 = .ok (.ifCond .ge 7, 3) := by decide +kernel
theorem dX12_both_172 : decode cX12_both 172 = .ok (.lconst 1, 1) := by decide +kernel
theorem dX12_both_173 : decode cX12_both 173 = .ok (.goto 4, 3) := by decide +kernel
theorem dX12_both_176 : decode cX12_both 176 = .ok (.lconst 0, 1) := by decide +kernel
theorem dX12_both_177 : decode cX12_both 177 = .ok (.lreturn, 1) := by decide +kernel
theorem dX12_both_178 : decode cX12_both 178 = .ok (.lload_n 1, 1) := by decide +kernel
theorem dX12_both_179 : decode cX12_both 179 = .ok (.lload_n 3, 1) := by decide +kernel
theorem dX12_both_180 : decode cX12_both 180 = .ok (.lcmp, 1) := by decide +kernel
theorem dX12_both_181 : decode cX12_both 181 = .ok (.ifCond .le 7, 3) := by decide +kernel
theorem dX12_both_184 : decode cX12_both 184 = .ok (.lconst 1, 1) := by decide +kernel
theorem dX12_both_185 : decode cX12_both 185 = .ok (.goto 4, 3) := by decide +kernel
theorem dX12_both_188 : decode cX12_both 188 = .ok (.lconst 0, 1) := by decide +kernel
theorem dX12_both_189 : decode cX12_both 189 = .ok (.lreturn, 1) := by decide +kernel
theorem dX12_both_190 : decode cX12_both 190 = .ok (.lload_n 1, 1) := by decide +kernel
theorem dX12_both_191 : decode cX12_both 191 = .ok (.lload_n 3, 1) := by decide +kernel
theorem dX12_both_192 : decode cX12_both 192 = .ok (.ladd, 1) := by decide +kernel
theorem dX12_both_193 : decode cX12_both 193 = .ok (.ldc2_w 271, 3) := by decide +kernel
theorem dX12_both_196 : decode cX12_both 196 = .ok (.lcmp, 1) := by decide +kernel
theorem dX12_both_197 : decode cX12_both 197 = .ok (.ifCond .ne 7, 3) := by decide +kernel
theorem dX12_both_200 : decode cX12_both 200 = .ok (.lconst 1, 1) := by decide +kernel
theorem dX12_both_201 : decode cX12_both 201 = .ok (.goto 4, 3) := by decide +kernel
theorem dX12_both_204 : decode cX12_both 204 = .ok (.lconst 0, 1) := by decide +kernel
theorem dX12_both_205 : decode cX12_both 205 = .ok (.lreturn, 1) := by decide +kernel
theorem dX12_both_206 : decode cX12_both 206 = .ok (.lload_n 1, 1) := by decide +kernel
theorem dX12_both_207 : decode cX12_both 207 = .ok (.lload_n 3, 1) := by decide +kernel
theorem dX12_both_208 : decode cX12_both 208 = .ok (.ladd, 1) := by decide +kernel
theorem dX12_both_209 : decode cX12_both 209 = .ok (.lconst 0, 1) := by decide +kernel
theorem dX12_both_210 : decode cX12_both 210 = .ok (.lcmp, 1) := by decide +kernel
theorem dX12_both_211 : decode cX12_both 211 = .ok (.ifCond .le 7, 3) := by decide +kernel
theorem dX12_both_214 : decode cX12_both 214 = .ok (.lconst 1, 1) := by decide +kernel
theorem dX12_both_215 : decode cX12_both 215 = .ok (.goto 4, 3) := by decide +kernel
theorem dX12_both_218 : decode cX12_both 218 = .ok (.lconst 0, 1) := by decide +kernel
theorem dX12_both_219 : decode cX12_both 219 = .ok (.lreturn, 1) := by decide +kernel
theorem dX12_work_0 : decode cX12_work 0 = .ok (.iconst 0, 1) := by decide +kernel
theorem dX12_work_1 : decode cX12_work 1 = .ok (.istore 9, 2) := by decide +kernel
theorem dX12_work_3 : decode cX12_work 3 = .ok (.sipush 400, 3) := by decide +kernel
theorem dX12_work_6 : decode cX12_work 6 = .ok (.iload_n 1, 1) := by decide +kernel
theorem dX12_work_7 : decode cX12_work 7 = .ok (.imul, 1) := by decide +kernel
theorem dX12_work_8 : decode cX12_work 8 = .ok (.iload_n 2, 1) := by decide +kernel
theorem dX12_work_9 : decode cX12_work 9 = .ok (.iadd, 1) := by decide +kernel
theorem dX12_work_10 : decode cX12_work 10 = .ok (.istore 10, 2) := by decide +kernel
theorem dX12_work_12 : decode cX12_work 12 = .ok (.iload 10, 2) := by decide +kernel
theorem dX12_work_14 : decode cX12_work 14 = .ok (.sipush 400, 3) := by decide +kernel
theorem dX12_work_17 : decode cX12_work 17 = .ok (.iload_n 1, 1) := by decide +kernel
theorem dX12_work_18 : decode cX12_work 18 = .ok (.imul, 1) := by decide +kernel
theorem dX12_work_19 : decode cX12_work 19 = .ok (.iload_n 3, 1) := by decide +kernel
theorem dX12_work_20 : decode cX12_work 20 = .ok (.iadd, 1) := by decide +kernel
theorem dX12_work_21 : decode cX12_work 21 = .ok (.if_icmp .ge 178, 3) := by decide +kernel
theorem dX12_work_24 : decode cX12_work 24 = .ok (.aload_n 0, 1) := by decide +kernel
theorem dX12_work_25 : decode cX12_work 25 = .ok (.getfield 61, 3) := by decide +kernel
theorem dX12_work_28 : decode cX12_work 28 = .ok (.iload 10, 2) := by decide +kernel
theorem dX12_work_30 : decode cX12_work 30 = .ok (.iaload, 1) := by decide +kernel
theorem dX12_work_31 : decode cX12_work 31 = .ok (.istore 11, 2) := by decide +kernel
theorem dX12_work_33 : decode cX12_work 33 = .ok (.iinc 10 1, 3) := by decide +kernel
theorem dX12_work_36 : decode cX12_work 36 = .ok (.iload 11, 2) := by decide +kernel
theorem dX12_work_38 : decode cX12_work 38 = .ok (.iconst 2, 1) := by decide +kernel
theorem dX12_work_39 : decode cX12_work 39 = .ok (.if_icmp .ge 94, 3) := by decide +kernel
theorem dX12_work_42 : decode cX12_work 42 = .ok (.aload_n 0, 1) := by decide +kernel
theorem dX12_work_43 : decode cX12_work 43 = .ok (.getfield 61, 3) := by decide +kernel
theorem dX12_work_46 : decode cX12_work 46 = .ok (.iload 10, 2) := by decide +kernel
theorem dX12_work_48 : decode cX12_work 48 = .ok (.iaload, 1) := by decide +kernel
theorem dX12_work_49 : decode cX12_work 49 = .ok (.istore 12, 2) := by decide +kernel
theorem dX12_work_51 : decode cX12_work 51 = .ok (.iinc 10 1, 3) := by decide +kernel
theorem dX12_work_54 : decode cX12_work 54 = .ok (.aload_n 0, 1) := by decide +kernel
theorem dX12_work_55 : decode cX12_work 55 = .ok (.getfield 73, 3) := by decide +kernel
theorem dX12_work_58 : decode cX12_work 58 = .ok (.iload 9, 2) := by decide +kernel
theorem dX12_work_60 : decode cX12_work 60 = .ok (.iload 11, 2) := by decide +kernel
theorem dX12_work_62 : decode cX12_work 62 = .ok (.ifCond .ne 9, 3) := by decide +kernel
theorem dX12_work_65 : decode cX12_work 65 = .ok (.iload 12, 2) := by decide +kernel
theorem dX12_work_67 : decode cX12_work 67 = .ok (.i2l, 1) := by decide +kernel
theorem dX12_work_68 : decode cX12_work 68 = .ok (.goto 58, 3) := by decide +kernel
theorem dX12_work_71 : decode cX12_work 71 = .ok (.iload 12, 2) := by decide +kernel
theorem dX12_work_73 : decode cX12_work 73 = .ok (.bipush 108, 2) := by decide +kernel
theorem dX12_work_75 : decode cX12_work 75 = .ok (.if_icmp .ne 9, 3) := by decide +kernel
theorem dX12_work_78 : decode cX12_work 78 = .ok (.iload 4, 2) := by decide +kernel
theorem dX12_work_80 : decode cX12_work 80 = .ok (.i2l, 1) := by decide +kernel
theorem dX12_work_81 : decode cX12_work 81 = .ok (.goto 45, 3) := by decide +kernel
theorem dX12_work_84 : decode cX12_work 84 = .ok (.iload 12, 2) := by decide +kernel
theorem dX12_work_86 : decode cX12_work 86 = .ok (.bipush 104, 2) := by decide +kernel
theorem dX12_work_88 : decode cX12_work 88 = .ok (.if_icmp .ne 9, 3) := by decide +kernel
theorem dX12_work_91 : decode cX12_work 91 = .ok (.iload 5, 2) := by decide +kernel
theorem dX12_work_93 : decode cX12_work 93 = .ok (.i2l, 1) := by decide +kernel
theorem dX12_work_94 : decode cX12_work 94 = .ok (.goto 32, 3) := by decide +kernel
theorem dX12_work_97 : decode cX12_work 97 = .ok (.iload 12, 2) := by decide +kernel
theorem dX12_work_99 : decode cX12_work 99 = .ok (.bipush 107, 2) := by decide +kernel
theorem dX12_work_101 : decode cX12_work 101 = .ok (.if_icmp .ne 9, 3) := by decide +kernel
theorem dX12_work_104 : decode cX12_work 104 = .ok (.iload 6, 2) := by decide +kernel
theorem dX12_work_106 : decode cX12_work 106 = .ok (.i2l, 1) := by decide +kernel
theorem dX12_work_107 : decode cX12_work 107 = .ok (.goto 19, 3) := by decide +kernel
theorem dX12_work_110 : decode cX12_work 110 = .ok (.iload 12, 2) := by decide +kernel
theorem dX12_work_112 : decode cX12_work 112 = .ok (.bipush 115, 2) := by decide +kernel
theorem dX12_work_114 : decode cX12_work 114 = .ok (.if_icmp .ne 9, 3) := by decide +kernel
theorem dX12_work_117 : decode cX12_work 117 = .ok (.iload 7, 2) := by decide +kernel
theorem dX12_work_119 : decode cX12_work 119 = .ok (.i2l, 1) := by decide +kernel
theorem dX12_work_120 : decode cX12_work 120 = .ok (.goto 6, 3) := by decide +kernel
theorem dX12_work_123 : decode cX12_work 123 = .ok (.iload 8, 2) := by decide +kernel
theorem dX12_work_125 : decode cX12_work 125 = .ok (.i2l, 1) := by decide +kernel
theorem dX12_work_126 : decode cX12_work 126 = .ok (.lastore, 1) := by decide +kernel
theorem dX12_work_127 : decode cX12_work 127 = .ok (.iinc 9 1, 3) := by decide +kernel
theorem dX12_work_130 : decode cX12_work 130 = .ok (.goto 66, 3) := by decide +kernel
theorem dX12_work_133 : decode cX12_work 133 = .ok (.iload 11, 2) := by decide +kernel
theorem dX12_work_135 : decode cX12_work 135 = .ok (.bipush 33, 2) := by decide +kernel
theorem dX12_work_137 : decode cX12_work 137 = .ok (.if_icmp .ne 26, 3) := by decide +kernel
theorem dX12_work_140 : decode cX12_work 140 = .ok (.aload_n 0, 1) := by decide +kernel
theorem dX12_work_141 : decode cX12_work 141 = .ok (.getfield 73, 3) := by decide +kernel
theorem dX12_work_144 : decode cX12_work 144 = .ok (.iload 9, 2) := by decide +kernel
theorem dX12_work_146 : decode cX12_work 146 = .ok (.iconst 1, 1) := by decide +kernel
theorem dX12_work_147 : decode cX12_work 147 = .ok (.isub, 1) := by decide +kernel
theorem dX12_work_148 : decode cX12_work 148 = .ok (.lconst 1, 1) := by decide +kernel
theorem dX12_work_149 : decode cX12_work 149 = .ok (.aload_n 0, 1) := by decide +kernel
theorem dX12_work_150 : decode cX12_work 150 = .ok (.getfield 73, 3) := by decide +kernel
theorem dX12_work_153 : decode cX12_work 153 = .ok (.iload 9, 2) := by decide +kernel
theorem dX12_work_155 : decode cX12_work 155 = .ok (.iconst 1, 1) := by decide +kernel
theorem dX12_work_156 : decode cX12_work 156 = .ok (.isub, 1) := by decide +kernel
theorem dX12_work_157 : decode cX12_work 157 = .ok (.laload, 1) := by decide +kernel
theorem dX12_work_158 : decode cX12_work 158 = .ok (.lsub, 1) := by decide +kernel
theorem dX12_work_159 : decode cX12_work 159 = .ok (.lastore, 1) := by decide +kernel
theorem dX12_work_160 : decode cX12_work 160 = .ok (.goto 36, 3) := by decide +kernel
theorem dX12_work_163 : decode cX12_work 163 = .ok (.iinc 9 (-1), 3) := by decide +kernel
theorem dX12_work_166 : decode cX12_work 166 = .ok (.aload_n 0, 1) := by decide +kernel
theorem dX12_work_167 : decode cX12_work 167 = .ok (.getfield 73, 3) := by decide +kernel
theorem dX12_work_170 : decode cX12_work 170 = .ok (.iload 9, 2) := by decide +kernel
theorem dX12_work_172 : decode cX12_work 172 = .ok (.iconst 1, 1) := by decide +kernel
theorem dX12_work_173 : decode cX12_work 173 = .ok (.isub, 1) := by decide +kernel
theorem dX12_work_174 : decode cX12_work 174 = .ok (.iload 11, 2) := by decide +kernel
theorem dX12_work_176 : decode cX12_work 176 = .ok (.aload_n 0, 1) := by decide +kernel
theorem dX12_work_177 : decode cX12_work 177 = .ok (.getfield 73, 3) := by decide +kernel
theorem dX12_work_180 : decode cX12_work 180 = .ok (.iload 9, 2) := by decide +kernel
theorem dX12_work_182 : decode cX12_work 182 = .ok (.iconst 1, 1) := by decide +kernel
theorem dX12_work_183 : decode cX12_work 183 = .ok (.isub, 1) := by decide +kernel
theorem dX12_work_184 : decode cX12_work 184 = .ok (.laload, 1) := by decide +kernel
theorem dX12_work_185 : decode cX12_work 185 = .ok (.aload_n 0, 1) := by decide +kernel
theorem dX12_work_186 : decode cX12_work 186 = .ok (.getfield 73, 3) := by decide +kernel
theorem dX12_work_189 : decode cX12_work 189 = .ok (.iload 9, 2) := by decide +kernel
theorem dX12_work_191 : decode cX12_work 191 = .ok (.laload, 1) := by decide +kernel
theorem dX12_work_192 : decode cX12_work 192 = .ok (.invokestatic 273, 3) := by decide +kernel
theorem dX12_work_195 : decode cX12_work 195 = .ok (.lastore, 1) := by decide +kernel
theorem dX12_work_196 : decode cX12_work 196 = .ok (.goto (-184), 3) := by decide +kernel
theorem dX12_work_199 : decode cX12_work 199 = .ok (.aload_n 0, 1) := by decide +kernel
theorem dX12_work_200 : decode cX12_work 200 = .ok (.getfield 73, 3) := by decide +kernel
theorem dX12_work_203 : decode cX12_work 203 = .ok (.iconst 0, 1) := by decide +kernel
theorem dX12_work_204 : decode cX12_work 204 = .ok (.laload, 1) := by decide +kernel
theorem dX12_work_205 : decode cX12_work 205 = .ok (.lreturn, 1) := by decide +kernel
theorem dX12_worthOf_0 : decode cX12_worthOf 0 = .ok (.iconst 0, 1) := by decide +kernel
theorem dX12_worthOf_1 : decode cX12_worthOf 1 = .ok (.istore 7, 2) := by decide +kernel
theorem dX12_worthOf_3 : decode cX12_worthOf 3 = .ok (.iconst 0, 1) := by decide +kernel
theorem dX12_worthOf_4 : decode cX12_worthOf 4 = .ok (.istore 8, 2) := by decide +kernel
theorem dX12_worthOf_6 : decode cX12_worthOf 6 = .ok (.iload 8, 2) := by decide +kernel
theorem dX12_worthOf_8 : decode cX12_worthOf 8 = .ok (.aload_n 0, 1) := by decide +kernel
theorem dX12_worthOf_9 : decode cX12_worthOf 9 = .ok (.getfield 64, 3) := by decide +kernel
theorem dX12_worthOf_12 : decode cX12_worthOf 12 = .ok (.iload_n 1, 1) := by decide +kernel
theorem dX12_worthOf_13 : decode cX12_worthOf 13 = .ok (.iaload, 1) := by decide +kernel
theorem dX12_worthOf_14 : decode cX12_worthOf 14 = .ok (.if_icmp .ge 89, 3) := by decide +kernel
theorem dX12_worthOf_17 : decode cX12_worthOf 17 = .ok (.aload_n 0, 1) := by decide +kernel
theorem dX12_worthOf_18 : decode cX12_worthOf 18 = .ok (.getfield 67, 3) := by decide +kernel
theorem dX12_worthOf_21 : decode cX12_worthOf 21 = .ok (.bipush 64, 2) := by decide +kernel
theorem dX12_worthOf_23 : decode cX12_worthOf 23 = .ok (.iload_n 1, 1) := by decide +kernel
theorem dX12_worthOf_24 : decode cX12_worthOf 24 = .ok (.imul, 1) := by decide +kernel
theorem dX12_worthOf_25 : decode cX12_worthOf 25 = .ok (.iload 8, 2) := by decide +kernel
theorem dX12_worthOf_27 : decode cX12_worthOf 27 = .ok (.iadd, 1) := by decide +kernel
theorem dX12_worthOf_28 : decode cX12_worthOf 28 = .ok (.iaload, 1) := by decide +kernel
theorem dX12_worthOf_29 : decode cX12_worthOf 29 = .ok (.istore 9, 2) := by decide +kernel
theorem dX12_worthOf_31 : decode cX12_worthOf 31 = .ok (.aload_n 0, 1) := by decide +kernel
theorem dX12_worthOf_32 : decode cX12_worthOf 32 = .ok (.getfield 70, 3) := by decide +kernel
theorem dX12_worthOf_35 : decode cX12_worthOf 35 = .ok (.bipush 64, 2) := by decide +kernel
theorem dX12_worthOf_37 : decode cX12_worthOf 37 = .ok (.iload_n 1, 1) := by decide +kernel
theorem dX12_worthOf_38 : decode cX12_worthOf 38 = .ok (.imul, 1) := by decide +kernel
theorem dX12_worthOf_39 : decode cX12_worthOf 39 = .ok (.iload 8, 2) := by decide +kernel
theorem dX12_worthOf_41 : decode cX12_worthOf 41 = .ok (.iadd, 1) := by decide +kernel
theorem dX12_worthOf_42 : decode cX12_worthOf 42 = .ok (.iaload, 1) := by decide +kernel
theorem dX12_worthOf_43 : decode cX12_worthOf 43 = .ok (.istore 10, 2) := by decide +kernel
theorem dX12_worthOf_45 : decode cX12_worthOf 45 = .ok (.iload 9, 2) := by decide +kernel
theorem dX12_worthOf_47 : decode cX12_worthOf 47 = .ok (.iload 7, 2) := by decide +kernel
theorem dX12_worthOf_49 : decode cX12_worthOf 49 = .ok (.if_icmp .eq 25, 3) := by decide +kernel
theorem dX12_worthOf_52 : decode cX12_worthOf 52 = .ok (.aload_n 0, 1) := by decide +kernel
theorem dX12_worthOf_53 : decode cX12_worthOf 53 = .ok (.iload_n 1, 1) := by decide +kernel
theorem dX12_worthOf_54 : decode cX12_worthOf 54 = .ok (.iload 7, 2) := by decide +kernel
theorem dX12_worthOf_56 : decode cX12_worthOf 56 = .ok (.iload 9, 2) := by decide +kernel
theorem dX12_worthOf_58 : decode cX12_worthOf 58 = .ok (.iload_n 2, 1) := by decide +kernel
theorem dX12_worthOf_59 : decode cX12_worthOf 59 = .ok (.iload_n 3, 1) := by decide +kernel
theorem dX12_worthOf_60 : decode cX12_worthOf 60 = .ok (.iload 4, 2) := by decide +kernel
theorem dX12_worthOf_62 : decode cX12_worthOf 62 = .ok (.iload 5, 2) := by decide +kernel
theorem dX12_worthOf_64 : decode cX12_worthOf 64 = .ok (.iload 6, 2) := by decide +kernel
theorem dX12_worthOf_66 : decode cX12_worthOf 66 = .ok (.invokevirtual 277, 3) := by decide +kernel
theorem dX12_worthOf_69 : decode cX12_worthOf 69 = .ok (.lconst 1, 1) := by decide +kernel
theorem dX12_worthOf_70 : decode cX12_worthOf 70 = .ok (.lcmp, 1) := by decide +kernel
theorem dX12_worthOf_71 : decode cX12_worthOf 71 = .ok (.ifCond .ne 22, 3) := by decide +kernel
theorem dX12_worthOf_74 : decode cX12_worthOf 74 = .ok (.aload_n 0, 1) := by decide +kernel
theorem dX12_worthOf_75 : decode cX12_worthOf 75 = .ok (.iload_n 1, 1) := by decide +kernel
theorem dX12_worthOf_76 : decode cX12_worthOf 76 = .ok (.iload 9, 2) := by decide +kernel
theorem dX12_worthOf_78 : decode cX12_worthOf 78 = .ok (.iload 10, 2) := by decide +kernel
theorem dX12_worthOf_80 : decode cX12_worthOf 80 = .ok (.iload_n 2, 1) := by decide +kernel
theorem dX12_worthOf_81 : decode cX12_worthOf 81 = .ok (.iload_n 3, 1) := by decide +kernel
theorem dX12_worthOf_82 : decode cX12_worthOf 82 = .ok (.iload 4, 2) := by decide +kernel
theorem dX12_worthOf_84 : decode cX12_worthOf 84 = .ok (.iload 5, 2) := by decide +kernel
theorem dX12_worthOf_86 : decode cX12_worthOf 86 = .ok (.iload 6, 2) := by decide +kernel
theorem dX12_worthOf_88 : decode cX12_worthOf 88 = .ok (.invokevirtual 277, 3) := by decide +kernel
theorem dX12_worthOf_91 : decode cX12_worthOf 91 = .ok (.l2i, 1) := by decide +kernel
theorem dX12_worthOf_92 : decode cX12_worthOf 92 = .ok (.ireturn, 1) := by decide +kernel
theorem dX12_worthOf_93 : decode cX12_worthOf 93 = .ok (.iload 10, 2) := by decide +kernel
theorem dX12_worthOf_95 : decode cX12_worthOf 95 = .ok (.istore 7, 2) := by decide +kernel
theorem dX12_worthOf_97 : decode cX12_worthOf 97 = .ok (.iinc 8 1, 3) := by decide +kernel
theorem dX12_worthOf_100 : decode cX12_worthOf 100 = .ok (.goto (-94), 3) := by decide +kernel
theorem dX12_worthOf_103 : decode cX12_worthOf 103 = .ok (.iconst 0, 1) := by decide +kernel
theorem dX12_worthOf_104 : decode cX12_worthOf 104 = .ok (.ireturn, 1) := by decide +kernel
theorem dX12_worth_0 : decode cX12_worth 0 = .ok (.aload_n 0, 1) := by decide +kernel
theorem dX12_worth_1 : decode cX12_worth 1 = .ok (.iload_n 1, 1) := by decide +kernel
theorem dX12_worth_2 : decode cX12_worth 2 = .ok (.iconst 0, 1) := by decide +kernel
theorem dX12_worth_3 : decode cX12_worth 3 = .ok (.aload_n 0, 1) := by decide +kernel
theorem dX12_worth_4 : decode cX12_worth 4 = .ok (.getfield 255, 3) := by decide +kernel
theorem dX12_worth_7 : decode cX12_worth 7 = .ok (.iconst 1, 1) := by decide +kernel
theorem dX12_worth_8 : decode cX12_worth 8 = .ok (.isub, 1) := by decide +kernel
theorem dX12_worth_9 : decode cX12_worth 9 = .ok (.invokestatic 121, 3) := by decide +kernel
theorem dX12_worth_12 : decode cX12_worth 12 = .ok (.ifCond .eq 7, 3) := by decide +kernel
theorem dX12_worth_15 : decode cX12_worth 15 = .ok (.iconst 0, 1) := by decide +kernel
theorem dX12_worth_16 : decode cX12_worth 16 = .ok (.goto 4, 3) := by decide +kernel
theorem dX12_worth_19 : decode cX12_worth 19 = .ok (.iconst 1, 1) := by decide +kernel
theorem dX12_worth_20 : decode cX12_worth 20 = .ok (.putfield 118, 3) := by decide +kernel
theorem dX12_worth_23 : decode cX12_worth 23 = .ok (.aload_n 0, 1) := by decide +kernel
theorem dX12_worth_24 : decode cX12_worth 24 = .ok (.getfield 118, 3) := by decide +kernel
theorem dX12_worth_27 : decode cX12_worth 27 = .ok (.iconst 1, 1) := by decide +kernel
theorem dX12_worth_28 : decode cX12_worth 28 = .ok (.if_icmp .ne 7, 3) := by decide +kernel
theorem dX12_worth_31 : decode cX12_worth 31 = .ok (.iconst 0, 1) := by decide +kernel
theorem dX12_worth_32 : decode cX12_worth 32 = .ok (.goto 16, 3) := by decide +kernel
theorem dX12_worth_35 : decode cX12_worth 35 = .ok (.aload_n 0, 1) := by decide +kernel
theorem dX12_worth_36 : decode cX12_worth 36 = .ok (.iload_n 1, 1) := by decide +kernel
theorem dX12_worth_37 : decode cX12_worth 37 = .ok (.iload_n 2, 1) := by decide +kernel
theorem dX12_worth_38 : decode cX12_worth 38 = .ok (.iload_n 3, 1) := by decide +kernel
theorem dX12_worth_39 : decode cX12_worth 39 = .ok (.iload 4, 2) := by decide +kernel
theorem dX12_worth_41 : decode cX12_worth 41 = .ok (.iload 5, 2) := by decide +kernel
theorem dX12_worth_43 : decode cX12_worth 43 = .ok (.iload 6, 2) := by decide +kernel
theorem dX12_worth_45 : decode cX12_worth 45 = .ok (.invokevirtual 281, 3) := by decide +kernel
theorem dX12_worth_48 : decode cX12_worth 48 = .ok (.ireturn, 1) := by decide +kernel
theorem dX12_isFigure_0 : decode cX12_isFigure 0 = .ok (.iload_n 1, 1) := by decide +kernel
theorem dX12_isFigure_1 : decode cX12_isFigure 1 = .ok (.iconst 0, 1) := by decide +kernel
theorem dX12_isFigure_2 : decode cX12_isFigure 2 = .ok (.aload_n 0, 1) := by decide +kernel
theorem dX12_isFigure_3 : decode cX12_isFigure 3 = .ok (.getfield 252, 3) := by decide +kernel
theorem dX12_isFigure_6 : decode cX12_isFigure 6 = .ok (.iconst 1, 1) := by decide +kernel
theorem dX12_isFigure_7 : decode cX12_isFigure 7 = .ok (.isub, 1) := by decide +kernel
theorem dX12_isFigure_8 : decode cX12_isFigure 8 = .ok (.invokestatic 121, 3) := by decide +kernel
theorem dX12_isFigure_11 : decode cX12_isFigure 11 = .ok (.ireturn, 1) := by decide +kernel
theorem dX12_isPoint_0 : decode cX12_isPoint 0 = .ok (.aload_n 0, 1) := by decide +kernel
theorem dX12_isPoint_1 : decode cX12_isPoint 1 = .ok (.iload_n 1, 1) := by decide +kernel
theorem dX12_isPoint_2 : decode cX12_isPoint 2 = .ok (.invokevirtual 284, 3) := by decide +kernel
theorem dX12_isPoint_5 : decode cX12_isPoint 5 = .ok (.ifCond .eq 23, 3) := by decide +kernel
theorem dX12_isPoint_8 : decode cX12_isPoint 8 = .ok (.iload_n 2, 1) := by decide +kernel
theorem dX12_isPoint_9 : decode cX12_isPoint 9 = .ok (.iconst 0, 1) := by decide +kernel
theorem dX12_isPoint_10 : decode cX12_isPoint 10 = .ok (.aload_n 0, 1) := by decide +kernel
theorem dX12_isPoint_11 : decode cX12_isPoint 11 = .ok (.getfield 34, 3) := by decide +kernel
theorem dX12_isPoint_14 : decode cX12_isPoint 14 = .ok (.iload_n 1, 1) := by decide +kernel
theorem dX12_isPoint_15 : decode cX12_isPoint 15 = .ok (.iaload, 1) := by decide +kernel
theorem dX12_isPoint_16 : decode cX12_isPoint 16 = .ok (.iconst 1, 1) := by decide +kernel
theorem dX12_isPoint_17 : decode cX12_isPoint 17 = .ok (.isub, 1) := by decide +kernel
theorem dX12_isPoint_18 : decode cX12_isPoint 18 = .ok (.invokestatic 121, 3) := by decide +kernel
theorem dX12_isPoint_21 : decode cX12_isPoint 21 = .ok (.ifCond .eq 7, 3) := by decide +kernel
theorem dX12_isPoint_24 : decode cX12_isPoint 24 = .ok (.iconst 1, 1) := by decide +kernel
theorem dX12_isPoint_25 : decode cX12_isPoint 25 = .ok (.goto 4, 3) := by decide +kernel
theorem dX12_isPoint_28 : decode cX12_isPoint 28 = .ok (.iconst 0, 1) := by decide +kernel
theorem dX12_isPoint_29 : decode cX12_isPoint 29 = .ok (.ireturn, 1) := by decide +kernel
theorem dX12_isBubble_0 : decode cX12_isBubble 0 = .ok (.aload_n 0, 1) := by decide +kernel
theorem dX12_isBubble_1 : decode cX12_isBubble 1 = .ok (.iload_n 1, 1) := by decide +kernel
theorem dX12_isBubble_2 : decode cX12_isBubble 2 = .ok (.invokevirtual 284, 3) := by decide +kernel
theorem dX12_isBubble_5 : decode cX12_isBubble 5 = .ok (.ifCond .eq 23, 3) := by decide +kernel
theorem dX12_isBubble_8 : decode cX12_isBubble 8 = .ok (.iload_n 2, 1) := by decide +kernel
theorem dX12_isBubble_9 : decode cX12_isBubble 9 = .ok (.iconst 0, 1) := by decide +kernel
theorem dX12_isBubble_10 : decode cX12_isBubble 10 = .ok (.aload_n 0, 1) := by decide +kernel
theorem dX12_isBubble_11 : decode cX12_isBubble 11 = .ok (.getfield 31, 3) := by decide +kernel
theorem dX12_isBubble_14 : decode cX12_isBubble 14 = .ok (.iload_n 1, 1) := by decide +kernel
theorem dX12_isBubble_15 : decode cX12_isBubble 15 = .ok (.iaload, 1) := by decide +kernel
theorem dX12_isBubble_16 : decode cX12_isBubble 16 = .ok (.iconst 1, 1) := by decide +kernel
theorem dX12_isBubble_17 : decode cX12_isBubble 17 = .ok (.isub, 1) := by decide +kernel
theorem dX12_isBubble_18 : decode cX12_isBubble 18 = .ok (.invokestatic 121, 3) := by decide +kernel
theorem dX12_isBubble_21 : decode cX12_isBubble 21 = .ok (.ifCond .eq 7, 3) := by decide +kernel
theorem dX12_isBubble_24 : decode cX12_isBubble 24 = .ok (.iconst 1, 1) := by decide +kernel
theorem dX12_isBubble_25 : decode cX12_isBubble 25 = .ok (.goto 4, 3) := by decide +kernel
theorem dX12_isBubble_28 : decode cX12_isBubble 28 = .ok (.iconst 0, 1) := by decide +kernel
theorem dX12_isBubble_29 : decode cX12_isBubble 29 = .ok (.ireturn, 1) := by decide +kernel
theorem dX12_isBalloon_0 : decode cX12_isBalloon 0 = .ok (.aload_n 0, 1) := by decide +kernel
theorem dX12_isBalloon_1 : decode cX12_isBalloon 1 = .ok (.iload_n 1, 1) := by decide +kernel
theorem dX12_isBalloon_2 : decode cX12_isBalloon 2 = .ok (.invokevirtual 284, 3) := by decide +kernel
theorem dX12_isBalloon_5 : decode cX12_isBalloon 5 = .ok (.ifCond .eq 23, 3) := by decide +kernel
theorem dX12_isBalloon_8 : decode cX12_isBalloon 8 = .ok (.iload_n 2, 1) := by decide +kernel
theorem dX12_isBalloon_9 : decode cX12_isBalloon 9 = .ok (.iconst 0, 1) := by decide +kernel
theorem dX12_isBalloon_10 : decode cX12_isBalloon 10 = .ok (.aload_n 0, 1) := by decide +kernel
theorem dX12_isBalloon_11 : decode cX12_isBalloon 11 = .ok (.getfield 25, 3) := by decide +kernel
theorem dX12_isBalloon_14 : decode cX12_isBalloon 14 = .ok (.iload_n 1, 1) := by decide +kernel
theorem dX12_isBalloon_15 : decode cX12_isBalloon 15 = .ok (.iaload, 1) := by decide +kernel
theorem dX12_isBalloon_16 : decode cX12_isBalloon 16 = .ok (.iconst 1, 1) := by decide +kernel
theorem dX12_isBalloon_17 : decode cX12_isBalloon 17 = .ok (.isub, 1) := by decide +kernel
theorem dX12_isBalloon_18 : decode cX12_isBalloon 18 = .ok (.invokestatic 121, 3) := by decide +kernel
theorem dX12_isBalloon_21 : decode cX12_isBalloon 21 = .ok (.ifCond .eq 7, 3) := by decide +kernel
theorem dX12_isBalloon_24 : decode cX12_isBalloon 24 = .ok (.iconst 1, 1) := by decide +kernel
theorem dX12_isBalloon_25 : decode cX12_isBalloon 25 = .ok (.goto 4, 3) := by decide +kernel
theorem dX12_isBalloon_28 : decode cX12_isBalloon 28 = .ok (.iconst 0, 1) := by decide +kernel
theorem dX12_isBalloon_29 : decode cX12_isBalloon 29 = .ok (.ireturn, 1) := by decide +kernel
theorem dX12_isSort_0 : decode cX12_isSort 0 = .ok (.iload_n 1, 1) := by decide +kernel
theorem dX12_isSort_1 : decode cX12_isSort 1 = .ok (.iconst 0, 1) := by decide +kernel
theorem dX12_isSort_2 : decode cX12_isSort 2 = .ok (.aload_n 0, 1) := by decide +kernel
theorem dX12_isSort_3 : decode cX12_isSort 3 = .ok (.getfield 125, 3) := by decide +kernel
theorem dX12_isSort_6 : decode cX12_isSort 6 = .ok (.iconst 1, 1) := by decide +kernel
theorem dX12_isSort_7 : decode cX12_isSort 7 = .ok (.isub, 1) := by decide +kernel
theorem dX12_isSort_8 : decode cX12_isSort 8 = .ok (.invokestatic 121, 3) := by decide +kernel
theorem dX12_isSort_11 : decode cX12_isSort 11 = .ok (.ireturn, 1) := by decide +kernel
theorem dX12_endsIn_0 : decode cX12_endsIn 0 = .ok (.iconst 0, 1) := by decide +kernel
theorem dX12_endsIn_1 : decode cX12_endsIn 1 = .ok (.istore 4, 2) := by decide +kernel
theorem dX12_endsIn_3 : decode cX12_endsIn 3 = .ok (.iconst 0, 1) := by decide +kernel
theorem dX12_endsIn_4 : decode cX12_endsIn 4 = .ok (.istore 5, 2) := by decide +kernel
theorem dX12_endsIn_6 : decode cX12_endsIn 6 = .ok (.iload 5, 2) := by decide +kernel
theorem dX12_endsIn_8 : decode cX12_endsIn 8 = .ok (.aload_n 0, 1) := by decide +kernel
theorem dX12_endsIn_9 : decode cX12_endsIn 9 = .ok (.getfield 31, 3) := by decide +kernel
theorem dX12_endsIn_12 : decode cX12_endsIn 12 = .ok (.iload_n 1, 1) := by decide +kernel
theorem dX12_endsIn_13 : decode cX12_endsIn 13 = .ok (.iaload, 1) := by decide +kernel
theorem dX12_endsIn_14 : decode cX12_endsIn 14 = .ok (.if_icmp .ge 71, 3) := by decide +kernel
theorem dX12_endsIn_17 : decode cX12_endsIn 17 = .ok (.iload_n 3, 1) := by decide +kernel
theorem dX12_endsIn_18 : decode cX12_endsIn 18 = .ok (.iload 5, 2) := by decide +kernel
theorem dX12_endsIn_20 : decode cX12_endsIn 20 = .ok (.ishr, 1) := by decide +kernel
theorem dX12_endsIn_21 : decode cX12_endsIn 21 = .ok (.iconst 1, 1) := by decide +kernel
theorem dX12_endsIn_22 : decode cX12_endsIn 22 = .ok (.iand, 1) := by decide +kernel
theorem dX12_endsIn_23 : decode cX12_endsIn 23 = .ok (.iconst 1, 1) := by decide +kernel
theorem dX12_endsIn_24 : decode cX12_endsIn 24 = .ok (.if_icmp .ne 55, 3) := by decide +kernel
theorem dX12_endsIn_27 : decode cX12_endsIn 27 = .ok (.iload 4, 2) := by decide +kernel
theorem dX12_endsIn_29 : decode cX12_endsIn 29 = .ok (.aload_n 0, 1) := by decide +kernel
theorem dX12_endsIn_30 : decode cX12_endsIn 30 = .ok (.getfield 40, 3) := by decide +kernel
theorem dX12_endsIn_33 : decode cX12_endsIn 33 = .ok (.bipush 24, 2) := by decide +kernel
theorem dX12_endsIn_35 : decode cX12_endsIn 35 = .ok (.iload_n 1, 1) := by decide +kernel
theorem dX12_endsIn_36 : decode cX12_endsIn 36 = .ok (.imul, 1) := by decide +kernel
theorem dX12_endsIn_37 : decode cX12_endsIn 37 = .ok (.iload 5, 2) := by decide +kernel
theorem dX12_endsIn_39 : decode cX12_endsIn 39 = .ok (.iadd, 1) := by decide +kernel
theorem dX12_endsIn_40 : decode cX12_endsIn 40 = .ok (.iaload, 1) := by decide +kernel
theorem dX12_endsIn_41 : decode cX12_endsIn 41 = .ok (.iload_n 2, 1) := by decide +kernel
theorem dX12_endsIn_42 : decode cX12_endsIn 42 = .ok (.if_icmp .ne 7, 3) := by decide +kernel
theorem dX12_endsIn_45 : decode cX12_endsIn 45 = .ok (.iconst 1, 1) := by decide +kernel
theorem dX12_endsIn_46 : decode cX12_endsIn 46 = .ok (.goto 4, 3) := by decide +kernel
theorem dX12_endsIn_49 : decode cX12_endsIn 49 = .ok (.iconst 0, 1) := by decide +kernel
theorem dX12_endsIn_50 : decode cX12_endsIn 50 = .ok (.iadd, 1) := by decide +kernel
theorem dX12_endsIn_51 : decode cX12_endsIn 51 = .ok (.istore 4, 2) := by decide +kernel
theorem dX12_endsIn_53 : decode cX12_endsIn 53 = .ok (.iload 4, 2) := by decide +kernel
theorem dX12_endsIn_55 : decode cX12_endsIn 55 = .ok (.aload_n 0, 1) := by decide +kernel
theorem dX12_endsIn_56 : decode cX12_endsIn 56 = .ok (.getfield 43, 3) := by decide +kernel
theorem dX12_endsIn_59 : decode cX12_endsIn 59 = .ok (.bipush 24, 2) := by decide +kernel
theorem dX12_endsIn_61 : decode cX12_endsIn 61 = .ok (.iload_n 1, 1) := by decide +kernel
theorem dX12_endsIn_62 : decode cX12_endsIn 62 = .ok (.imul, 1) := by decide +kernel
theorem dX12_endsIn_63 : decode cX12_endsIn 63 = .ok (.iload 5, 2) := by decide +kernel
theorem dX12_endsIn_65 : decode cX12_endsIn 65 = .ok (.iadd, 1) := by decide +kernel
theorem dX12_endsIn_66 : decode cX12_endsIn 66 = .ok (.iaload, 1) := by decide +kernel
theorem dX12_endsIn_67 : decode cX12_endsIn 67 = .ok (.iload_n 2, 1) := by decide +kernel
theorem dX12_endsIn_68 : decode cX12_endsIn 68 = .ok (.if_icmp .ne 7, 3) := by decide +kernel
theorem dX12_endsIn_71 : decode cX12_endsIn 71 = .ok (.iconst 1, 1) := by decide +kernel
theorem dX12_endsIn_72 : decode cX12_endsIn 72 = .ok (.goto 4, 3) := by decide +kernel
theorem dX12_endsIn_75 : decode cX12_endsIn 75 = .ok (.iconst 0, 1) := by decide +kernel
theorem dX12_endsIn_76 : decode cX12_endsIn 76 = .ok (.iadd, 1) := by decide +kernel
theorem dX12_endsIn_77 : decode cX12_endsIn 77 = .ok (.istore 4, 2) := by decide +kernel
theorem dX12_endsIn_79 : decode cX12_endsIn 79 = .ok (.iinc 5 1, 3) := by decide +kernel
theorem dX12_endsIn_82 : decode cX12_endsIn 82 = .ok (.goto (-76), 3) := by decide +kernel
theorem dX12_endsIn_85 : decode cX12_endsIn 85 = .ok (.iload 4, 2) := by decide +kernel
theorem dX12_endsIn_87 : decode cX12_endsIn 87 = .ok (.ireturn, 1) := by decide +kernel
theorem dX12_all_0 : decode cX12_all 0 = .ok (.iconst 1, 1) := by decide +kernel
theorem dX12_all_1 : decode cX12_all 1 = .ok (.aload_n 0, 1) := by decide +kernel
theorem dX12_all_2 : decode cX12_all 2 = .ok (.getfield 31, 3) := by decide +kernel
theorem dX12_all_5 : decode cX12_all 5 = .ok (.iload_n 1, 1) := by decide +kernel
theorem dX12_all_6 : decode cX12_all 6 = .ok (.iaload, 1) := by decide +kernel
theorem dX12_all_7 : decode cX12_all 7 = .ok (.ishl, 1) := by decide +kernel
theorem dX12_all_8 : decode cX12_all 8 = .ok (.iconst 1, 1) := by decide +kernel
theorem dX12_all_9 : decode cX12_all 9 = .ok (.isub, 1) := by decide +kernel
theorem dX12_all_10 : decode cX12_all 10 = .ok (.ireturn, 1) := by decide +kernel
theorem dX12_isTwist_0 : decode cX12_isTwist 0 = .ok (.iload_n 2, 1) := by decide +kernel
theorem dX12_isTwist_1 : decode cX12_isTwist 1 = .ok (.iconst 1, 1) := by decide +kernel
theorem dX12_isTwist_2 : decode cX12_isTwist 2 = .ok (.iadd, 1) := by decide +kernel
theorem dX12_isTwist_3 : decode cX12_isTwist 3 = .ok (.aload_n 0, 1) := by decide +kernel
theorem dX12_isTwist_4 : decode cX12_isTwist 4 = .ok (.getfield 31, 3) := by decide +kernel
theorem dX12_isTwist_7 : decode cX12_isTwist 7 = .ok (.iload_n 1, 1) := by decide +kernel
theorem dX12_isTwist_8 : decode cX12_isTwist 8 = .ok (.iaload, 1) := by decide +kernel
theorem dX12_isTwist_9 : decode cX12_isTwist 9 = .ok (.if_icmp .ge 34, 3) := by decide +kernel
theorem dX12_isTwist_12 : decode cX12_isTwist 12 = .ok (.aload_n 0, 1) := by decide +kernel
theorem dX12_isTwist_13 : decode cX12_isTwist 13 = .ok (.getfield 46, 3) := by decide +kernel
theorem dX12_isTwist_16 : decode cX12_isTwist 16 = .ok (.bipush 24, 2) := by decide +kernel
theorem dX12_isTwist_18 : decode cX12_isTwist 18 = .ok (.iload_n 1, 1) := by decide +kernel
theorem dX12_isTwist_19 : decode cX12_isTwist 19 = .ok (.imul, 1) := by decide +kernel
theorem dX12_isTwist_20 : decode cX12_isTwist 20 = .ok (.iload_n 2, 1) := by decide +kernel
theorem dX12_isTwist_21 : decode cX12_isTwist 21 = .ok (.iadd, 1) := by decide +kernel
theorem dX12_isTwist_22 : decode cX12_isTwist 22 = .ok (.iaload, 1) := by decide +kernel
theorem dX12_isTwist_23 : decode cX12_isTwist 23 = .ok (.aload_n 0, 1) := by decide +kernel
theorem dX12_isTwist_24 : decode cX12_isTwist 24 = .ok (.getfield 46, 3) := by decide +kernel
theorem dX12_isTwist_27 : decode cX12_isTwist 27 = .ok (.bipush 24, 2) := by decide +kernel
theorem dX12_isTwist_29 : decode cX12_isTwist 29 = .ok (.iload_n 1, 1) := by decide +kernel
theorem dX12_isTwist_30 : decode cX12_isTwist 30 = .ok (.imul, 1) := by decide +kernel
theorem dX12_isTwist_31 : decode cX12_isTwist 31 = .ok (.iload_n 2, 1) := by decide +kernel
theorem dX12_isTwist_32 : decode cX12_isTwist 32 = .ok (.iadd, 1) := by decide +kernel
theorem dX12_isTwist_33 : decode cX12_isTwist 33 = .ok (.iconst 1, 1) := by decide +kernel
theorem dX12_isTwist_34 : decode cX12_isTwist 34 = .ok (.iadd, 1) := by decide +kernel
theorem dX12_isTwist_35 : decode cX12_isTwist 35 = .ok (.iaload, 1) := by decide +kernel
theorem dX12_isTwist_36 : decode cX12_isTwist 36 = .ok (.if_icmp .ne 7, 3) := by decide +kernel
theorem dX12_isTwist_39 : decode cX12_isTwist 39 = .ok (.iconst 1, 1) := by decide +kernel
theorem dX12_isTwist_40 : decode cX12_isTwist 40 = .ok (.goto 4, 3) := by decide +kernel
theorem dX12_isTwist_43 : decode cX12_isTwist 43 = .ok (.iconst 0, 1) := by decide +kernel
theorem dX12_isTwist_44 : decode cX12_isTwist 44 = .ok (.ireturn, 1) := by decide +kernel
theorem dX12_isSlack_0 : decode cX12_isSlack 0 = .ok (.aload_n 0, 1) := by decide +kernel
theorem dX12_isSlack_1 : decode cX12_isSlack 1 = .ok (.iload_n 1, 1) := by decide +kernel
theorem dX12_isSlack_2 : decode cX12_isSlack 2 = .ok (.aload_n 0, 1) := by decide +kernel
theorem dX12_isSlack_3 : decode cX12_isSlack 3 = .ok (.getfield 43, 3) := by decide +kernel
theorem dX12_isSlack_6 : decode cX12_isSlack 6 = .ok (.bipush 24, 2) := by decide +kernel
theorem dX12_isSlack_8 : decode cX12_isSlack 8 = .ok (.iload_n 1, 1) := by decide +kernel
theorem dX12_isSlack_9 : decode cX12_isSlack 9 = .ok (.imul, 1) := by decide +kernel
theorem dX12_isSlack_10 : decode cX12_isSlack 10 = .ok (.iload_n 2, 1) := by decide +kernel
theorem dX12_isSlack_11 : decode cX12_isSlack 11 = .ok (.iadd, 1) := by decide +kernel
theorem dX12_isSlack_12 : decode cX12_isSlack 12 = .ok (.iaload, 1) := by decide +kernel
theorem dX12_isSlack_13 : decode cX12_isSlack 13 = .ok (.aload_n 0, 1) := by decide +kernel
theorem dX12_isSlack_14 : decode cX12_isSlack 14 = .ok (.iload_n 1, 1) := by decide +kernel
theorem dX12_isSlack_15 : decode cX12_isSlack 15 = .ok (.invokevirtual 287, 3) := by decide +kernel
theorem dX12_isSlack_18 : decode cX12_isSlack 18 = .ok (.invokevirtual 290, 3) := by decide +kernel
theorem dX12_isSlack_21 : decode cX12_isSlack 21 = .ok (.iconst 3, 1) := by decide +kernel
theorem dX12_isSlack_22 : decode cX12_isSlack 22 = .ok (.if_icmp .ge 7, 3) := by decide +kernel
theorem dX12_isSlack_25 : decode cX12_isSlack 25 = .ok (.iconst 1, 1) := by decide +kernel
theorem dX12_isSlack_26 : decode cX12_isSlack 26 = .ok (.goto 4, 3) := by decide +kernel
theorem dX12_isSlack_29 : decode cX12_isSlack 29 = .ok (.iconst 0, 1) := by decide +kernel
theorem dX12_isSlack_30 : decode cX12_isSlack 30 = .ok (.ireturn, 1) := by decide +kernel
theorem dX12_odd_0 : decode cX12_odd 0 = .ok (.iconst 0, 1) := by decide +kernel
theorem dX12_odd_1 : decode cX12_odd 1 = .ok (.istore_n 3, 1) := by decide +kernel
theorem dX12_odd_2 : decode cX12_odd 2 = .ok (.iconst 0, 1) := by decide +kernel
theorem dX12_odd_3 : decode cX12_odd 3 = .ok (.istore 4, 2) := by decide +kernel
theorem dX12_odd_5 : decode cX12_odd 5 = .ok (.iload 4, 2) := by decide +kernel
theorem dX12_odd_7 : decode cX12_odd 7 = .ok (.aload_n 0, 1) := by decide +kernel
theorem dX12_odd_8 : decode cX12_odd 8 = .ok (.getfield 34, 3) := by decide +kernel
theorem dX12_odd_11 : decode cX12_odd 11 = .ok (.iload_n 1, 1) := by decide +kernel
theorem dX12_odd_12 : decode cX12_odd 12 = .ok (.iaload, 1) := by decide +kernel
theorem dX12_odd_13 : decode cX12_odd 13 = .ok (.if_icmp .ge 22, 3) := by decide +kernel
theorem dX12_odd_16 : decode cX12_odd 16 = .ok (.iload_n 3, 1) := by decide +kernel
theorem dX12_odd_17 : decode cX12_odd 17 = .ok (.aload_n 0, 1) := by decide +kernel
theorem dX12_odd_18 : decode cX12_odd 18 = .ok (.iload_n 1, 1) := by decide +kernel
theorem dX12_odd_19 : decode cX12_odd 19 = .ok (.iload 4, 2) := by decide +kernel
theorem dX12_odd_21 : decode cX12_odd 21 = .ok (.iload_n 2, 1) := by decide +kernel
theorem dX12_odd_22 : decode cX12_odd 22 = .ok (.invokevirtual 290, 3) := by decide +kernel
theorem dX12_odd_25 : decode cX12_odd 25 = .ok (.iconst 2, 1) := by decide +kernel
theorem dX12_odd_26 : decode cX12_odd 26 = .ok (.irem, 1) := by decide +kernel
theorem dX12_odd_27 : decode cX12_odd 27 = .ok (.iadd, 1) := by decide +kernel
theorem dX12_odd_28 : decode cX12_odd 28 = .ok (.istore_n 3, 1) := by decide +kernel
theorem dX12_odd_29 : decode cX12_odd 29 = .ok (.iinc 4 1, 3) := by decide +kernel
theorem dX12_odd_32 : decode cX12_odd 32 = .ok (.goto (-27), 3) := by decide +kernel
theorem dX12_odd_35 : decode cX12_odd 35 = .ok (.iload_n 3, 1) := by decide +kernel
theorem dX12_odd_36 : decode cX12_odd 36 = .ok (.ireturn, 1) := by decide +kernel
theorem dX12_many_0 : decode cX12_many 0 = .ok (.aload_n 0, 1) := by decide +kernel
theorem dX12_many_1 : decode cX12_many 1 = .ok (.iload_n 1, 1) := by decide +kernel
theorem dX12_many_2 : decode cX12_many 2 = .ok (.invokevirtual 284, 3) := by decide +kernel
theorem dX12_many_5 : decode cX12_many 5 = .ok (.ifCond .eq 12, 3) := by decide +kernel
theorem dX12_many_8 : decode cX12_many 8 = .ok (.iload_n 2, 1) := by decide +kernel
theorem dX12_many_9 : decode cX12_many 9 = .ok (.iconst 0, 1) := by decide +kernel
theorem dX12_many_10 : decode cX12_many 10 = .ok (.iconst 5, 1) := by decide +kernel
theorem dX12_many_11 : decode cX12_many 11 = .ok (.invokestatic 121, 3) := by decide +kernel
theorem dX12_many_14 : decode cX12_many 14 = .ok (.ifCond .ne 5, 3) := by decide +kernel
theorem dX12_many_17 : decode cX12_many 17 = .ok (.iconst (-1), 1) := by decide +kernel
theorem dX12_many_18 : decode cX12_many 18 = .ok (.ireturn, 1) := by decide +kernel
theorem dX12_many_19 : decode cX12_many 19 = .ok (.iconst 0, 1) := by decide +kernel
theorem dX12_many_20 : decode cX12_many 20 = .ok (.istore_n 3, 1) := by decide +kernel
theorem dX12_many_21 : decode cX12_many 21 = .ok (.iconst 0, 1) := by decide +kernel
theorem dX12_many_22 : decode cX12_many 22 = .ok (.istore 4, 2) := by decide +kernel
theorem dX12_many_24 : decode cX12_many 24 = .ok (.iconst 0, 1) := by decide +kernel
theorem dX12_many_25 : decode cX12_many 25 = .ok (.istore 5, 2) := by decide +kernel
theorem dX12_many_27 : decode cX12_many 27 = .ok (.iload 5, 2) := by decide +kernel
theorem dX12_many_29 : decode cX12_many 29 = .ok (.aload_n 0, 1) := by decide +kernel
theorem dX12_many_30 : decode cX12_many 30 = .ok (.getfield 31, 3) := by decide +kernel
theorem dX12_many_33 : decode cX12_many 33 = .ok (.iload_n 1, 1) := by decide +kernel
theorem dX12_many_34 : decode cX12_many 34 = .ok (.iaload, 1) := by decide +kernel
theorem dX12_many_35 : decode cX12_many 35 = .ok (.if_icmp .ge 57, 3) := by decide +kernel
theorem dX12_many_38 : decode cX12_many 38 = .ok (.iload_n 3, 1) := by decide +kernel
theorem dX12_many_39 : decode cX12_many 39 = .ok (.aload_n 0, 1) := by decide +kernel
theorem dX12_many_40 : decode cX12_many 40 = .ok (.iload_n 1, 1) := by decide +kernel
theorem dX12_many_41 : decode cX12_many 41 = .ok (.iload 5, 2) := by decide +kernel
theorem dX12_many_43 : decode cX12_many 43 = .ok (.invokevirtual 294, 3) := by decide +kernel
theorem dX12_many_46 : decode cX12_many 46 = .ok (.ifCond .eq 7, 3) := by decide +kernel
theorem dX12_many_49 : decode cX12_many 49 = .ok (.iconst 1, 1) := by decide +kernel
theorem dX12_many_50 : decode cX12_many 50 = .ok (.goto 4, 3) := by decide +kernel
theorem dX12_many_53 : decode cX12_many 53 = .ok (.iconst 0, 1) := by decide +kernel
theorem dX12_many_54 : decode cX12_many 54 = .ok (.iadd, 1) := by decide +kernel
theorem dX12_many_55 : decode cX12_many 55 = .ok (.istore_n 3, 1) := by decide +kernel
theorem dX12_many_56 : decode cX12_many 56 = .ok (.iload 4, 2) := by decide +kernel
theorem dX12_many_58 : decode cX12_many 58 = .ok (.aload_n 0, 1) := by decide +kernel
theorem dX12_many_59 : decode cX12_many 59 = .ok (.iload_n 1, 1) := by decide +kernel
theorem dX12_many_60 : decode cX12_many 60 = .ok (.iload 5, 2) := by decide +kernel
theorem dX12_many_62 : decode cX12_many 62 = .ok (.invokevirtual 294, 3) := by decide +kernel
theorem dX12_many_65 : decode cX12_many 65 = .ok (.ifCond .eq 17, 3) := by decide +kernel
theorem dX12_many_68 : decode cX12_many 68 = .ok (.aload_n 0, 1) := by decide +kernel
theorem dX12_many_69 : decode cX12_many 69 = .ok (.iload_n 1, 1) := by decide +kernel
theorem dX12_many_70 : decode cX12_many 70 = .ok (.iload 5, 2) := by decide +kernel
theorem dX12_many_72 : decode cX12_many 72 = .ok (.invokevirtual 298, 3) := by decide +kernel
theorem dX12_many_75 : decode cX12_many 75 = .ok (.ifCond .eq 7, 3) := by decide +kernel
theorem dX12_many_78 : decode cX12_many 78 = .ok (.iconst 1, 1) := by decide +kernel
theorem dX12_many_79 : decode cX12_many 79 = .ok (.goto 4, 3) := by decide +kernel
theorem dX12_many_82 : decode cX12_many 82 = .ok (.iconst 0, 1) := by decide +kernel
theorem dX12_many_83 : decode cX12_many 83 = .ok (.iadd, 1) := by decide +kernel
theorem dX12_many_84 : decode cX12_many 84 = .ok (.istore 4, 2) := by decide +kernel
theorem dX12_many_86 : decode cX12_many 86 = .ok (.iinc 5 1, 3) := by decide +kernel
theorem dX12_many_89 : decode cX12_many 89 = .ok (.goto (-62), 3) := by decide +kernel
theorem dX12_many_92 : decode cX12_many 92 = .ok (.iload_n 2, 1) := by decide +kernel
theorem dX12_many_93 : decode cX12_many 93 = .ok (.ifCond .ne 12, 3) := by decide +kernel
theorem dX12_many_96 : decode cX12_many 96 = .ok (.aload_n 0, 1) := by decide +kernel
theorem dX12_many_97 : decode cX12_many 97 = .ok (.getfield 25, 3) := by decide +kernel
theorem dX12_many_100 : decode cX12_many 100 = .ok (.iload_n 1, 1) := by decide +kernel
theorem dX12_many_101 : decode cX12_many 101 = .ok (.iaload, 1) := by decide +kernel
theorem dX12_many_102 : decode cX12_many 102 = .ok (.goto 60, 3) := by decide +kernel
theorem dX12_many_105 : decode cX12_many 105 = .ok (.iload_n 2, 1) := by decide +kernel
theorem dX12_many_106 : decode cX12_many 106 = .ok (.iconst 1, 1) := by decide +kernel
theorem dX12_many_107 : decode cX12_many 107 = .ok (.if_icmp .ne 12, 3) := by decide +kernel
theorem dX12_many_110 : decode cX12_many 110 = .ok (.aload_n 0, 1) := by decide +kernel
theorem dX12_many_111 : decode cX12_many 111 = .ok (.getfield 31, 3) := by decide +kernel
theorem dX12_many_114 : decode cX12_many 114 = .ok (.iload_n 1, 1) := by decide +kernel
theorem dX12_many_115 : decode cX12_many 115 = .ok (.iaload, 1) := by decide +kernel
theorem dX12_many_116 : decode cX12_many 116 = .ok (.goto 46, 3) := by decide +kernel
theorem dX12_many_119 : decode cX12_many 119 = .ok (.iload_n 2, 1) := by decide +kernel
theorem dX12_many_120 : decode cX12_many 120 = .ok (.iconst 2, 1) := by decide +kernel
theorem dX12_many_121 : decode cX12_many 121 = .ok (.if_icmp .ne 12, 3) := by decide +kernel
theorem dX12_many_124 : decode cX12_many 124 = .ok (.aload_n 0, 1) := by decide +kernel
theorem dX12_many_125 : decode cX12_many 125 = .ok (.getfield 34, 3) := by decide +kernel
theorem dX12_many_128 : decode cX12_many 128 = .ok (.iload_n 1, 1) := by decide +kernel
theorem dX12_many_129 : decode cX12_many 129 = .ok (.iaload, 1) := by decide +kernel
theorem dX12_many_130 : decode cX12_many 130 = .ok (.goto 32, 3) := by decide +kernel
theorem dX12_many_133 : decode cX12_many 133 = .ok (.iload_n 2, 1) := by decide +kernel
theorem dX12_many_134 : decode cX12_many 134 = .ok (.iconst 3, 1) := by decide +kernel
theorem dX12_many_135 : decode cX12_many 135 = .ok (.if_icmp .ne 7, 3) := by decide +kernel
theorem dX12_many_138 : decode cX12_many 138 = .ok (.iload_n 3, 1) := by decide +kernel
theorem dX12_many_139 : decode cX12_many 139 = .ok (.goto 23, 3) := by decide +kernel
theorem dX12_many_142 : decode cX12_many 142 = .ok (.iload_n 2, 1) := by decide +kernel
theorem dX12_many_143 : decode cX12_many 143 = .ok (.iconst 4, 1) := by decide +kernel
theorem dX12_many_144 : decode cX12_many 144 = .ok (.if_icmp .ne 8, 3) := by decide +kernel
theorem dX12_many_147 : decode cX12_many 147 = .ok (.iload 4, 2) := by decide +kernel
theorem dX12_many_149 : decode cX12_many 149 = .ok (.goto 13, 3) := by decide +kernel
theorem dX12_many_152 : decode cX12_many 152 = .ok (.aload_n 0, 1) := by decide +kernel
theorem dX12_many_153 : decode cX12_many 153 = .ok (.iload_n 1, 1) := by decide +kernel
theorem dX12_many_154 : decode cX12_many 154 = .ok (.aload_n 0, 1) := by decide +kernel
theorem dX12_many_155 : decode cX12_many 155 = .ok (.iload_n 1, 1) := by decide +kernel
theorem dX12_many_156 : decode cX12_many 156 = .ok (.invokevirtual 287, 3) := by decide +kernel
theorem dX12_many_159 : decode cX12_many 159 = .ok (.invokevirtual 301, 3) := by decide +kernel
theorem dX12_many_162 : decode cX12_many 162 = .ok (.ireturn, 1) := by decide +kernel
theorem dX12_bubble__0 : decode cX12_bubble_ 0 = .ok (.aload_n 0, 1) := by decide +kernel
theorem dX12_bubble__1 : decode cX12_bubble_ 1 = .ok (.aload_n 0, 1) := by decide +kernel
theorem dX12_bubble__2 : decode cX12_bubble_ 2 = .ok (.iload_n 1, 1) := by decide +kernel
theorem dX12_bubble__3 : decode cX12_bubble_ 3 = .ok (.iload_n 2, 1) := by decide +kernel
theorem dX12_bubble__4 : decode cX12_bubble_ 4 = .ok (.invokevirtual 304, 3) := by decide +kernel
theorem dX12_bubble__7 : decode cX12_bubble_ 7 = .ok (.ifCond .eq 16, 3) := by decide +kernel
theorem dX12_bubble__10 : decode cX12_bubble_ 10 = .ok (.iload_n 3, 1) := by decide +kernel
theorem dX12_bubble__11 : decode cX12_bubble_ 11 = .ok (.iconst 0, 1) := by decide +kernel
theorem dX12_bubble__12 : decode cX12_bubble_ 12 = .ok (.iconst 4, 1) := by decide +kernel
theorem dX12_bubble__13 : decode cX12_bubble_ 13 = .ok (.invokestatic 121, 3) := by decide +kernel
theorem dX12_bubble__16 : decode cX12_bubble_ 16 = .ok (.ifCond .eq 7, 3) := by decide +kernel
theorem dX12_bubble__19 : decode cX12_bubble_ 19 = .ok (.iconst 0, 1) := by decide +kernel
theorem dX12_bubble__20 : decode cX12_bubble_ 20 = .ok (.goto 4, 3) := by decide +kernel
theorem dX12_bubble__23 : decode cX12_bubble_ 23 = .ok (.iconst 1, 1) := by decide +kernel
theorem dX12_bubble__24 : decode cX12_bubble_ 24 = .ok (.putfield 118, 3) := by decide +kernel
theorem dX12_bubble__27 : decode cX12_bubble_ 27 = .ok (.aload_n 0, 1) := by decide +kernel
theorem dX12_bubble__28 : decode cX12_bubble_ 28 = .ok (.getfield 118, 3) := by decide +kernel
theorem dX12_bubble__31 : decode cX12_bubble_ 31 = .ok (.iconst 1, 1) := by decide +kernel
theorem dX12_bubble__32 : decode cX12_bubble_ 32 = .ok (.if_icmp .ne 5, 3) := by decide +kernel
theorem dX12_bubble__35 : decode cX12_bubble_ 35 = .ok (.iconst 0, 1) := by decide +kernel
theorem dX12_bubble__36 : decode cX12_bubble_ 36 = .ok (.ireturn, 1) := by decide +kernel
theorem dX12_bubble__37 : decode cX12_bubble_ 37 = .ok (.bipush 24, 2) := by decide +kernel
theorem dX12_bubble__39 : decode cX12_bubble_ 39 = .ok (.iload_n 1, 1) := by decide +kernel
theorem dX12_bubble__40 : decode cX12_bubble_ 40 = .ok (.imul, 1) := by decide +kernel
theorem dX12_bubble__41 : decode cX12_bubble_ 41 = .ok (.iload_n 2, 1) := by decide +kernel
theorem dX12_bubble__42 : decode cX12_bubble_ 42 = .ok (.iadd, 1) := by decide +kernel
theorem dX12_bubble__43 : decode cX12_bubble_ 43 = .ok (.istore 4, 2) := by decide +kernel
theorem dX12_bubble__45 : decode cX12_bubble_ 45 = .ok (.iload_n 3, 1) := by decide +kernel
theorem dX12_bubble__46 : decode cX12_bubble_ 46 = .ok (.ifCond .ne 13, 3) := by decide +kernel
theorem dX12_bubble__49 : decode cX12_bubble_ 49 = .ok (.aload_n 0, 1) := by decide +kernel
theorem dX12_bubble__50 : decode cX12_bubble_ 50 = .ok (.getfield 37, 3) := by decide +kernel
theorem dX12_bubble__53 : decode cX12_bubble_ 53 = .ok (.iload 4, 2) := by decide +kernel
theorem dX12_bubble__55 : decode cX12_bubble_ 55 = .ok (.iaload, 1) := by decide +kernel
theorem dX12_bubble__56 : decode cX12_bubble_ 56 = .ok (.goto 65, 3) := by decide +kernel
theorem dX12_bubble__59 : decode cX12_bubble_ 59 = .ok (.iload_n 3, 1) := by decide +kernel
theorem dX12_bubble__60 : decode cX12_bubble_ 60 = .ok (.iconst 1, 1) := by decide +kernel
theorem dX12_bubble__61 : decode cX12_bubble_ 61 = .ok (.if_icmp .ne 13, 3) := by decide +kernel
theorem dX12_bubble__64 : decode cX12_bubble_ 64 = .ok (.aload_n 0, 1) := by decide +kernel
theorem dX12_bubble__65 : decode cX12_bubble_ 65 = .ok (.getfield 40, 3) := by decide +kernel
theorem dX12_bubble__68 : decode cX12_bubble_ 68 = .ok (.iload 4, 2) := by decide +kernel
theorem dX12_bubble__70 : decode cX12_bubble_ 70 = .ok (.iaload, 1) := by decide +kernel
theorem dX12_bubble__71 : decode cX12_bubble_ 71 = .ok (.goto 50, 3) := by decide +kernel
theorem dX12_bubble__74 : decode cX12_bubble_ 74 = .ok (.iload_n 3, 1) := by decide +kernel
theorem dX12_bubble__75 : decode cX12_bubble_ 75 = .ok (.iconst 2, 1) := by decide +kernel
theorem dX12_bubble__76 : decode cX12_bubble_ 76 = .ok (.if_icmp .ne 13, 3) := by decide +kernel
theorem dX12_bubble__79 : decode cX12_bubble_ 79 = .ok (.aload_n 0, 1) := by decide +kernel
theorem dX12_bubble__80 : decode cX12_bubble_ 80 = .ok (.getfield 43, 3) := by decide +kernel
theorem dX12_bubble__83 : decode cX12_bubble_ 83 = .ok (.iload 4, 2) := by decide +kernel
theorem dX12_bubble__85 : decode cX12_bubble_ 85 = .ok (.iaload, 1) := by decide +kernel
theorem dX12_bubble__86 : decode cX12_bubble_ 86 = .ok (.goto 35, 3) := by decide +kernel
theorem dX12_bubble__89 : decode cX12_bubble_ 89 = .ok (.iload_n 3, 1) := by decide +kernel
theorem dX12_bubble__90 : decode cX12_bubble_ 90 = .ok (.iconst 3, 1) := by decide +kernel
theorem dX12_bubble__91 : decode cX12_bubble_ 91 = .ok (.if_icmp .ne 13, 3) := by decide +kernel
theorem dX12_bubble__94 : decode cX12_bubble_ 94 = .ok (.aload_n 0, 1) := by decide +kernel
theorem dX12_bubble__95 : decode cX12_bubble_ 95 = .ok (.getfield 46, 3) := by decide +kernel
theorem dX12_bubble__98 : decode cX12_bubble_ 98 = .ok (.iload 4, 2) := by decide +kernel
theorem dX12_bubble__100 : decode cX12_bubble_ 100 = .ok (.iaload, 1) := by decide +kernel
theorem dX12_bubble__101 : decode cX12_bubble_ 101 = .ok (.goto 20, 3) := by decide +kernel
theorem dX12_bubble__104 : decode cX12_bubble_ 104 = .ok (.aload_n 0, 1) := by decide +kernel
theorem dX12_bubble__105 : decode cX12_bubble_ 105 = .ok (.getfield 28, 3) := by decide +kernel
theorem dX12_bubble__108 : decode cX12_bubble_ 108 = .ok (.bipush 6, 2) := by decide +kernel
theorem dX12_bubble__110 : decode cX12_bubble_ 110 = .ok (.iload_n 1, 1) := by decide +kernel
theorem dX12_bubble__111 : decode cX12_bubble_ 111 = .ok (.imul, 1) := by decide +kernel
theorem dX12_bubble__112 : decode cX12_bubble_ 112 = .ok (.aload_n 0, 1) := by decide +kernel
theorem dX12_bubble__113 : decode cX12_bubble_ 113 = .ok (.getfield 46, 3) := by decide +kernel
theorem dX12_bubble__116 : decode cX12_bubble_ 116 = .ok (.iload 4, 2) := by decide +kernel
theorem dX12_bubble__118 : decode cX12_bubble_ 118 = .ok (.iaload, 1) := by decide +kernel
theorem dX12_bubble__119 : decode cX12_bubble_ 119 = .ok (.iadd, 1) := by decide +kernel
theorem dX12_bubble__120 : decode cX12_bubble_ 120 = .ok (.iaload, 1) := by decide +kernel
theorem dX12_bubble__121 : decode cX12_bubble_ 121 = .ok (.ireturn, 1) := by decide +kernel
theorem dX12_ends_0 : decode cX12_ends 0 = .ok (.aload_n 0, 1) := by decide +kernel
theorem dX12_ends_1 : decode cX12_ends 1 = .ok (.iload_n 1, 1) := by decide +kernel
theorem dX12_ends_2 : decode cX12_ends 2 = .ok (.iload_n 2, 1) := by decide +kernel
theorem dX12_ends_3 : decode cX12_ends 3 = .ok (.invokevirtual 307, 3) := by decide +kernel
theorem dX12_ends_6 : decode cX12_ends 6 = .ok (.ifCond .eq 17, 3) := by decide +kernel
theorem dX12_ends_9 : decode cX12_ends 9 = .ok (.aload_n 0, 1) := by decide +kernel
theorem dX12_ends_10 : decode cX12_ends 10 = .ok (.iload_n 1, 1) := by decide +kernel
theorem dX12_ends_11 : decode cX12_ends 11 = .ok (.iload_n 2, 1) := by decide +kernel
theorem dX12_ends_12 : decode cX12_ends 12 = .ok (.aload_n 0, 1) := by decide +kernel
theorem dX12_ends_13 : decode cX12_ends 13 = .ok (.iload_n 1, 1) := by decide +kernel
theorem dX12_ends_14 : decode cX12_ends 14 = .ok (.invokevirtual 287, 3) := by decide +kernel
theorem dX12_ends_17 : decode cX12_ends 17 = .ok (.invokevirtual 290, 3) := by decide +kernel
theorem dX12_ends_20 : decode cX12_ends 20 = .ok (.goto 4, 3) := by decide +kernel
theorem dX12_ends_23 : decode cX12_ends 23 = .ok (.iconst (-1), 1) := by decide +kernel
theorem dX12_ends_24 : decode cX12_ends 24 = .ok (.ireturn, 1) := by decide +kernel
theorem dX12_bursts_0 : decode cX12_bursts 0 = .ok (.aload_n 0, 1) := by decide +kernel
theorem dX12_bursts_1 : decode cX12_bursts 1 = .ok (.iload_n 1, 1) := by decide +kernel
theorem dX12_bursts_2 : decode cX12_bursts 2 = .ok (.iload_n 2, 1) := by decide +kernel
theorem dX12_bursts_3 : decode cX12_bursts 3 = .ok (.invokevirtual 310, 3) := by decide +kernel
theorem dX12_bursts_6 : decode cX12_bursts 6 = .ok (.ifCond .ne 5, 3) := by decide +kernel
theorem dX12_bursts_9 : decode cX12_bursts 9 = .ok (.iconst (-1), 1) := by decide +kernel
theorem dX12_bursts_10 : decode cX12_bursts 10 = .ok (.ireturn, 1) := by decide +kernel
theorem dX12_bursts_11 : decode cX12_bursts 11 = .ok (.aload_n 0, 1) := by decide +kernel
theorem dX12_bursts_12 : decode cX12_bursts 12 = .ok (.getfield 28, 3) := by decide +kernel
theorem dX12_bursts_15 : decode cX12_bursts 15 = .ok (.bipush 6, 2) := by decide +kernel
theorem dX12_bursts_17 : decode cX12_bursts 17 = .ok (.iload_n 1, 1) := by decide +kernel
theorem dX12_bursts_18 : decode cX12_bursts 18 = .ok (.imul, 1) := by decide +kernel
theorem dX12_bursts_19 : decode cX12_bursts 19 = .ok (.iload_n 2, 1) := by decide +kernel
theorem dX12_bursts_20 : decode cX12_bursts 20 = .ok (.iadd, 1) := by decide +kernel
theorem dX12_bursts_21 : decode cX12_bursts 21 = .ok (.iaload, 1) := by decide +kernel
theorem dX12_bursts_22 : decode cX12_bursts 22 = .ok (.istore_n 3, 1) := by decide +kernel
theorem dX12_bursts_23 : decode cX12_bursts 23 = .ok (.aload_n 0, 1) := by decide +kernel
theorem dX12_bursts_24 : decode cX12_bursts 24 = .ok (.getfield 13, 3) := by decide +kernel
theorem dX12_bursts_27 : decode cX12_bursts 27 = .ok (.iload_n 3, 1) := by decide +kernel
theorem dX12_bursts_28 : decode cX12_bursts 28 = .ok (.iaload, 1) := by decide +kernel
theorem dX12_bursts_29 : decode cX12_bursts 29 = .ok (.ineg, 1) := by decide +kernel
theorem dX12_bursts_30 : decode cX12_bursts 30 = .ok (.istore 4, 2) := by decide +kernel
theorem dX12_bursts_32 : decode cX12_bursts 32 = .ok (.iconst 0, 1) := by decide +kernel
theorem dX12_bursts_33 : decode cX12_bursts 33 = .ok (.istore 5, 2) := by decide +kernel
theorem dX12_bursts_35 : decode cX12_bursts 35 = .ok (.iload 5, 2) := by decide +kernel
theorem dX12_bursts_37 : decode cX12_bursts 37 = .ok (.aload_n 0, 1) := by decide +kernel
theorem dX12_bursts_38 : decode cX12_bursts 38 = .ok (.getfield 31, 3) := by decide +kernel
theorem dX12_bursts_41 : decode cX12_bursts 41 = .ok (.iload_n 1, 1) := by decide +kernel
theorem dX12_bursts_42 : decode cX12_bursts 42 = .ok (.iaload, 1) := by decide +kernel
theorem dX12_bursts_43 : decode cX12_bursts 43 = .ok (.if_icmp .ge 63, 3) := by decide +kernel
theorem dX12_bursts_46 : decode cX12_bursts 46 = .ok (.aload_n 0, 1) := by decide +kernel
theorem dX12_bursts_47 : decode cX12_bursts 47 = .ok (.getfield 46, 3) := by decide +kernel
theorem dX12_bursts_50 : decode cX12_bursts 50 = .ok (.bipush 24, 2) := by decide +kernel
theorem dX12_bursts_52 : decode cX12_bursts 52 = .ok (.iload_n 1, 1) := by decide +kernel
theorem dX12_bursts_53 : decode cX12_bursts 53 = .ok (.imul, 1) := by decide +kernel
theorem dX12_bursts_54 : decode cX12_bursts 54 = .ok (.iload 5, 2) := by decide +kernel
theorem dX12_bursts_56 : decode cX12_bursts 56 = .ok (.iadd, 1) := by decide +kernel
theorem dX12_bursts_57 : decode cX12_bursts 57 = .ok (.iaload, 1) := by decide +kernel
theorem dX12_bursts_58 : decode cX12_bursts 58 = .ok (.iload_n 2, 1) := by decide +kernel
theorem dX12_bursts_59 : decode cX12_bursts 59 = .ok (.if_icmp .ne 41, 3) := by decide +kernel
theorem dX12_bursts_62 : decode cX12_bursts 62 = .ok (.iload 4, 2) := by decide +kernel
theorem dX12_bursts_64 : decode cX12_bursts 64 = .ok (.aload_n 0, 1) := by decide +kernel
theorem dX12_bursts_65 : decode cX12_bursts 65 = .ok (.getfield 13, 3) := by decide +kernel
theorem dX12_bursts_68 : decode cX12_bursts 68 = .ok (.iload_n 3, 1) := by decide +kernel
theorem dX12_bursts_69 : decode cX12_bursts 69 = .ok (.iaload, 1) := by decide +kernel
theorem dX12_bursts_70 : decode cX12_bursts 70 = .ok (.aload_n 0, 1) := by decide +kernel
theorem dX12_bursts_71 : decode cX12_bursts 71 = .ok (.getfield 37, 3) := by decide +kernel
theorem dX12_bursts_74 : decode cX12_bursts 74 = .ok (.bipush 24, 2) := by decide +kernel
theorem dX12_bursts_76 : decode cX12_bursts 76 = .ok (.iload_n 1, 1) := by decide +kernel
theorem dX12_bursts_77 : decode cX12_bursts 77 = .ok (.imul, 1) := by decide +kernel
theorem dX12_bursts_78 : decode cX12_bursts 78 = .ok (.iload 5, 2) := by decide +kernel
theorem dX12_bursts_80 : decode cX12_bursts 80 = .ok (.iadd, 1) := by decide +kernel
theorem dX12_bursts_81 : decode cX12_bursts 81 = .ok (.iaload, 1) := by decide +kernel
theorem dX12_bursts_82 : decode cX12_bursts 82 = .ok (.iadd, 1) := by decide +kernel
theorem dX12_bursts_83 : decode cX12_bursts 83 = .ok (.iadd, 1) := by decide +kernel
theorem dX12_bursts_84 : decode cX12_bursts 84 = .ok (.istore 4, 2) := by decide +kernel
theorem dX12_bursts_86 : decode cX12_bursts 86 = .ok (.iload 4, 2) := by decide +kernel
theorem dX12_bursts_88 : decode cX12_bursts 88 = .ok (.aload_n 0, 1) := by decide +kernel
theorem dX12_bursts_89 : decode cX12_bursts 89 = .ok (.getfield 9, 3) := by decide +kernel
theorem dX12_bursts_92 : decode cX12_bursts 92 = .ok (.iload_n 3, 1) := by decide +kernel
theorem dX12_bursts_93 : decode cX12_bursts 93 = .ok (.iaload, 1) := by decide +kernel
theorem dX12_bursts_94 : decode cX12_bursts 94 = .ok (.if_icmp .le 6, 3) := by decide +kernel
theorem dX12_bursts_97 : decode cX12_bursts 97 = .ok (.iload 5, 2) := by decide +kernel
theorem dX12_bursts_99 : decode cX12_bursts 99 = .ok (.ireturn, 1) := by decide +kernel
theorem dX12_bursts_100 : decode cX12_bursts 100 = .ok (.iinc 5 1, 3) := by decide +kernel
theorem dX12_bursts_103 : decode cX12_bursts 103 = .ok (.goto (-68), 3) := by decide +kernel
theorem dX12_bursts_106 : decode cX12_bursts 106 = .ok (.iconst (-1), 1) := by decide +kernel
theorem dX12_bursts_107 : decode cX12_bursts 107 = .ok (.ireturn, 1) := by decide +kernel
theorem dX12_rest_0 : decode cX12_rest 0 = .ok (.aload_n 0, 1) := by decide +kernel
theorem dX12_rest_1 : decode cX12_rest 1 = .ok (.iload_n 1, 1) := by decide +kernel
theorem dX12_rest_2 : decode cX12_rest 2 = .ok (.iload_n 2, 1) := by decide +kernel
theorem dX12_rest_3 : decode cX12_rest 3 = .ok (.invokevirtual 310, 3) := by decide +kernel
theorem dX12_rest_6 : decode cX12_rest 6 = .ok (.ifCond .ne 5, 3) := by decide +kernel
theorem dX12_rest_9 : decode cX12_rest 9 = .ok (.iconst (-1), 1) := by decide +kernel
theorem dX12_rest_10 : decode cX12_rest 10 = .ok (.ireturn, 1) := by decide +kernel
theorem dX12_rest_11 : decode cX12_rest 11 = .ok (.aload_n 0, 1) := by decide +kernel
theorem dX12_rest_12 : decode cX12_rest 12 = .ok (.getfield 28, 3) := by decide +kernel
theorem dX12_rest_15 : decode cX12_rest 15 = .ok (.bipush 6, 2) := by decide +kernel
theorem dX12_rest_17 : decode cX12_rest 17 = .ok (.iload_n 1, 1) := by decide +kernel
theorem dX12_rest_18 : decode cX12_rest 18 = .ok (.imul, 1) := by decide +kernel
theorem dX12_rest_19 : decode cX12_rest 19 = .ok (.iload_n 2, 1) := by decide +kernel
theorem dX12_rest_20 : decode cX12_rest 20 = .ok (.iadd, 1) := by decide +kernel
theorem dX12_rest_21 : decode cX12_rest 21 = .ok (.iaload, 1) := by decide +kernel
theorem dX12_rest_22 : decode cX12_rest 22 = .ok (.istore_n 3, 1) := by decide +kernel
theorem dX12_rest_23 : decode cX12_rest 23 = .ok (.iconst 0, 1) := by decide +kernel
theorem dX12_rest_24 : decode cX12_rest 24 = .ok (.istore 4, 2) := by decide +kernel
theorem dX12_rest_26 : decode cX12_rest 26 = .ok (.iconst 0, 1) := by decide +kernel
theorem dX12_rest_27 : decode cX12_rest 27 = .ok (.istore 5, 2) := by decide +kernel
theorem dX12_rest_29 : decode cX12_rest 29 = .ok (.iconst 0, 1) := by decide +kernel
theorem dX12_rest_30 : decode cX12_rest 30 = .ok (.istore 6, 2) := by decide +kernel
theorem dX12_rest_32 : decode cX12_rest 32 = .ok (.iload 6, 2) := by decide +kernel
theorem dX12_rest_34 : decode cX12_rest 34 = .ok (.aload_n 0, 1) := by decide +kernel
theorem dX12_rest_35 : decode cX12_rest 35 = .ok (.getfield 31, 3) := by decide +kernel
theorem dX12_rest_38 : decode cX12_rest 38 = .ok (.iload_n 1, 1) := by decide +kernel
theorem dX12_rest_39 : decode cX12_rest 39 = .ok (.iaload, 1) := by decide +kernel
theorem dX12_rest_40 : decode cX12_rest 40 = .ok (.if_icmp .ge 45, 3) := by decide +kernel
theorem dX12_rest_43 : decode cX12_rest 43 = .ok (.aload_n 0, 1) := by decide +kernel
theorem dX12_rest_44 : decode cX12_rest 44 = .ok (.getfield 46, 3) := by decide +kernel
theorem dX12_rest_47 : decode cX12_rest 47 = .ok (.bipush 24, 2) := by decide +kernel
theorem dX12_rest_49 : decode cX12_rest 49 = .ok (.iload_n 1, 1) := by decide +kernel
theorem dX12_rest_50 : decode cX12_rest 50 = .ok (.imul, 1) := by decide +kernel
theorem dX12_rest_51 : decode cX12_rest 51 = .ok (.iload 6, 2) := by decide +kernel
theorem dX12_rest_53 : decode cX12_rest 53 = .ok (.iadd, 1) := by decide +kernel
theorem dX12_rest_54 : decode cX12_rest 54 = .ok (.iaload, 1) := by decide +kernel
theorem dX12_rest_55 : decode cX12_rest 55 = .ok (.iload_n 2, 1) := by decide +kernel
theorem dX12_rest_56 : decode cX12_rest 56 = .ok (.if_icmp .ne 23, 3) := by decide +kernel
theorem dX12_rest_59 : decode cX12_rest 59 = .ok (.iload 4, 2) := by decide +kernel
theorem dX12_rest_61 : decode cX12_rest 61 = .ok (.aload_n 0, 1) := by decide +kernel
theorem dX12_rest_62 : decode cX12_rest 62 = .ok (.getfield 37, 3) := by decide +kernel
theorem dX12_rest_65 : decode cX12_rest 65 = .ok (.bipush 24, 2) := by decide +kernel
theorem dX12_rest_67 : decode cX12_rest 67 = .ok (.iload_n 1, 1) := by decide +kernel
theorem dX12_rest_68 : decode cX12_rest 68 = .ok (.imul, 1) := by decide +kernel
theorem dX12_rest_69 : decode cX12_rest 69 = .ok (.iload 6, 2) := by decide +kernel
theorem dX12_rest_71 : decode cX12_rest 71 = .ok (.iadd, 1) := by decide +kernel
theorem dX12_rest_72 : decode cX12_rest 72 = .ok (.iaload, 1) := by decide +kernel
theorem dX12_rest_73 : decode cX12_rest 73 = .ok (.iadd, 1) := by decide +kernel
theorem dX12_rest_74 : decode cX12_rest 74 = .ok (.istore 4, 2) := by decide +kernel
theorem dX12_rest_76 : decode cX12_rest 76 = .ok (.iinc 5 1, 3) := by decide +kernel
theorem dX12_rest_79 : decode cX12_rest 79 = .ok (.iinc 6 1, 3) := by decide +kernel
theorem dX12_rest_82 : decode cX12_rest 82 = .ok (.goto (-50), 3) := by decide +kernel
theorem dX12_rest_85 : decode cX12_rest 85 = .ok (.iconst 0, 1) := by decide +kernel
theorem dX12_rest_86 : decode cX12_rest 86 = .ok (.aload_n 0, 1) := by decide +kernel
theorem dX12_rest_87 : decode cX12_rest 87 = .ok (.getfield 9, 3) := by decide +kernel
theorem dX12_rest_90 : decode cX12_rest 90 = .ok (.iload_n 3, 1) := by decide +kernel
theorem dX12_rest_91 : decode cX12_rest 91 = .ok (.iaload, 1) := by decide +kernel
theorem dX12_rest_92 : decode cX12_rest 92 = .ok (.iload 4, 2) := by decide +kernel
theorem dX12_rest_94 : decode cX12_rest 94 = .ok (.isub, 1) := by decide +kernel
theorem dX12_rest_95 : decode cX12_rest 95 = .ok (.aload_n 0, 1) := by decide +kernel
theorem dX12_rest_96 : decode cX12_rest 96 = .ok (.getfield 13, 3) := by decide +kernel
theorem dX12_rest_99 : decode cX12_rest 99 = .ok (.iload_n 3, 1) := by decide +kernel
theorem dX12_rest_100 : decode cX12_rest 100 = .ok (.iaload, 1) := by decide +kernel
theorem dX12_rest_101 : decode cX12_rest 101 = .ok (.iconst 0, 1) := by decide +kernel
theorem dX12_rest_102 : decode cX12_rest 102 = .ok (.iload 5, 2) := by decide +kernel
theorem dX12_rest_104 : decode cX12_rest 104 = .ok (.iconst 1, 1) := by decide +kernel
theorem dX12_rest_105 : decode cX12_rest 105 = .ok (.isub, 1) := by decide +kernel
theorem dX12_rest_106 : decode cX12_rest 106 = .ok (.invokestatic 149, 3) := by decide +kernel
theorem dX12_rest_109 : decode cX12_rest 109 = .ok (.imul, 1) := by decide +kernel
theorem dX12_rest_110 : decode cX12_rest 110 = .ok (.isub, 1) := by decide +kernel
theorem dX12_rest_111 : decode cX12_rest 111 = .ok (.invokestatic 149, 3) := by decide +kernel
theorem dX12_rest_114 : decode cX12_rest 114 = .ok (.ireturn, 1) := by decide +kernel
theorem dX12_hands_0 : decode cX12_hands 0 = .ok (.aload_n 0, 1) := by decide +kernel
theorem dX12_hands_1 : decode cX12_hands 1 = .ok (.iload_n 1, 1) := by decide +kernel
theorem dX12_hands_2 : decode cX12_hands 2 = .ok (.invokevirtual 284, 3) := by decide +kernel
theorem dX12_hands_5 : decode cX12_hands 5 = .ok (.ifCond .eq 12, 3) := by decide +kernel
theorem dX12_hands_8 : decode cX12_hands 8 = .ok (.aload_n 0, 1) := by decide +kernel
theorem dX12_hands_9 : decode cX12_hands 9 = .ok (.getfield 49, 3) := by decide +kernel
theorem dX12_hands_12 : decode cX12_hands 12 = .ok (.iload_n 1, 1) := by decide +kernel
theorem dX12_hands_13 : decode cX12_hands 13 = .ok (.iaload, 1) := by decide +kernel
theorem dX12_hands_14 : decode cX12_hands 14 = .ok (.goto 4, 3) := by decide +kernel
theorem dX12_hands_17 : decode cX12_hands 17 = .ok (.iconst (-1), 1) := by decide +kernel
theorem dX12_hands_18 : decode cX12_hands 18 = .ok (.ireturn, 1) := by decide +kernel
theorem dX12_holds_0 : decode cX12_holds 0 = .ok (.aload_n 0, 1) := by decide +kernel
theorem dX12_holds_1 : decode cX12_holds 1 = .ok (.iload_n 1, 1) := by decide +kernel
theorem dX12_holds_2 : decode cX12_holds 2 = .ok (.iload_n 2, 1) := by decide +kernel
theorem dX12_holds_3 : decode cX12_holds 3 = .ok (.invokevirtual 304, 3) := by decide +kernel
theorem dX12_holds_6 : decode cX12_holds 6 = .ok (.ifCond .eq 29, 3) := by decide +kernel
theorem dX12_holds_9 : decode cX12_holds 9 = .ok (.aload_n 0, 1) := by decide +kernel
theorem dX12_holds_10 : decode cX12_holds 10 = .ok (.iload_n 1, 1) := by decide +kernel
theorem dX12_holds_11 : decode cX12_holds 11 = .ok (.iload_n 2, 1) := by decide +kernel
theorem dX12_holds_12 : decode cX12_holds 12 = .ok (.invokevirtual 294, 3) := by decide +kernel
theorem dX12_holds_15 : decode cX12_holds 15 = .ok (.ifCond .eq 20, 3) := by decide +kernel
theorem dX12_holds_18 : decode cX12_holds 18 = .ok (.aload_n 0, 1) := by decide +kernel
theorem dX12_holds_19 : decode cX12_holds 19 = .ok (.iload_n 1, 1) := by decide +kernel
theorem dX12_holds_20 : decode cX12_holds 20 = .ok (.iload_n 2, 1) := by decide +kernel
theorem dX12_holds_21 : decode cX12_holds 21 = .ok (.invokevirtual 298, 3) := by decide +kernel
theorem dX12_holds_24 : decode cX12_holds 24 = .ok (.ifCond .eq 7, 3) := by decide +kernel
theorem dX12_holds_27 : decode cX12_holds 27 = .ok (.iconst 0, 1) := by decide +kernel
theorem dX12_holds_28 : decode cX12_holds 28 = .ok (.goto 8, 3) := by decide +kernel
theorem dX12_holds_31 : decode cX12_holds 31 = .ok (.iconst 1, 1) := by decide +kernel
theorem dX12_holds_32 : decode cX12_holds 32 = .ok (.goto 4, 3) := by decide +kernel
theorem dX12_holds_35 : decode cX12_holds 35 = .ok (.iconst (-1), 1) := by decide +kernel
theorem dX12_holds_36 : decode cX12_holds 36 = .ok (.ireturn, 1) := by decide +kernel
theorem dX12_handsOf_0 : decode cX12_handsOf 0 = .ok (.iconst 0, 1) := by decide +kernel
theorem dX12_handsOf_1 : decode cX12_handsOf 1 = .ok (.istore_n 2, 1) := by decide +kernel
theorem dX12_handsOf_2 : decode cX12_handsOf 2 = .ok (.iconst 0, 1) := by decide +kernel
theorem dX12_handsOf_3 : decode cX12_handsOf 3 = .ok (.istore_n 3, 1) := by decide +kernel
theorem dX12_handsOf_4 : decode cX12_handsOf 4 = .ok (.iload_n 3, 1) := by decide +kernel
theorem dX12_handsOf_5 : decode cX12_handsOf 5 = .ok (.aload_n 0, 1) := by decide +kernel
theorem dX12_handsOf_6 : decode cX12_handsOf 6 = .ok (.getfield 31, 3) := by decide +kernel
theorem dX12_handsOf_9 : decode cX12_handsOf 9 = .ok (.iload_n 1, 1) := by decide +kernel
theorem dX12_handsOf_10 : decode cX12_handsOf 10 = .ok (.iaload, 1) := by decide +kernel
theorem dX12_handsOf_11 : decode cX12_handsOf 11 = .ok (.if_icmp .ge 86, 3) := by decide +kernel
theorem dX12_handsOf_14 : decode cX12_handsOf 14 = .ok (.iconst 1, 1) := by decide +kernel
theorem dX12_handsOf_15 : decode cX12_handsOf 15 = .ok (.iload_n 3, 1) := by decide +kernel
theorem dX12_handsOf_16 : decode cX12_handsOf 16 = .ok (.iconst 1, 1) := by decide +kernel
theorem dX12_handsOf_17 : decode cX12_handsOf 17 = .ok (.iadd, 1) := by decide +kernel
theorem dX12_handsOf_18 : decode cX12_handsOf 18 = .ok (.ishl, 1) := by decide +kernel
theorem dX12_handsOf_19 : decode cX12_handsOf 19 = .ok (.iconst 1, 1) := by decide +kernel
theorem dX12_handsOf_20 : decode cX12_handsOf 20 = .ok (.isub, 1) := by decide +kernel
theorem dX12_handsOf_21 : decode cX12_handsOf 21 = .ok (.istore 4, 2) := by decide +kernel
theorem dX12_handsOf_23 : decode cX12_handsOf 23 = .ok (.iconst 0, 1) := by decide +kernel
theorem dX12_handsOf_24 : decode cX12_handsOf 24 = .ok (.istore 5, 2) := by decide +kernel
theorem dX12_handsOf_26 : decode cX12_handsOf 26 = .ok (.iconst 0, 1) := by decide +kernel
theorem dX12_handsOf_27 : decode cX12_handsOf 27 = .ok (.istore 6, 2) := by decide +kernel
theorem dX12_handsOf_29 : decode cX12_handsOf 29 = .ok (.iload 6, 2) := by decide +kernel
theorem dX12_handsOf_31 : decode cX12_handsOf 31 = .ok (.iload_n 3, 1) := by decide +kernel
theorem dX12_handsOf_32 : decode cX12_handsOf 32 = .ok (.if_icmp .ge 52, 3) := by decide +kernel
theorem dX12_handsOf_35 : decode cX12_handsOf 35 = .ok (.iload 5, 2) := by decide +kernel
theorem dX12_handsOf_37 : decode cX12_handsOf 37 = .ok (.aload_n 0, 1) := by decide +kernel
theorem dX12_handsOf_38 : decode cX12_handsOf 38 = .ok (.iload_n 1, 1) := by decide +kernel
theorem dX12_handsOf_39 : decode cX12_handsOf 39 = .ok (.iload 6, 2) := by decide +kernel
theorem dX12_handsOf_41 : decode cX12_handsOf 41 = .ok (.invokevirtual 294, 3) := by decide +kernel
theorem dX12_handsOf_44 : decode cX12_handsOf 44 = .ok (.ifCond .eq 30, 3) := by decide +kernel
theorem dX12_handsOf_47 : decode cX12_handsOf 47 = .ok (.aload_n 0, 1) := by decide +kernel
theorem dX12_handsOf_48 : decode cX12_handsOf 48 = .ok (.iload_n 1, 1) := by decide +kernel
theorem dX12_handsOf_49 : decode cX12_handsOf 49 = .ok (.aload_n 0, 1) := by decide +kernel
theorem dX12_handsOf_50 : decode cX12_handsOf 50 = .ok (.getfield 43, 3) := by decide +kernel
theorem dX12_handsOf_53 : decode cX12_handsOf 53 = .ok (.bipush 24, 2) := by decide +kernel
theorem dX12_handsOf_55 : decode cX12_handsOf 55 = .ok (.iload_n 1, 1) := by decide +kernel
theorem dX12_handsOf_56 : decode cX12_handsOf 56 = .ok (.imul, 1) := by decide +kernel
theorem dX12_handsOf_57 : decode cX12_handsOf 57 = .ok (.iload 6, 2) := by decide +kernel
theorem dX12_handsOf_59 : decode cX12_handsOf 59 = .ok (.iadd, 1) := by decide +kernel
theorem dX12_handsOf_60 : decode cX12_handsOf 60 = .ok (.iaload, 1) := by decide +kernel
theorem dX12_handsOf_61 : decode cX12_handsOf 61 = .ok (.iload 4, 2) := by decide +kernel
theorem dX12_handsOf_63 : decode cX12_handsOf 63 = .ok (.invokevirtual 290, 3) := by decide +kernel
theorem dX12_handsOf_66 : decode cX12_handsOf 66 = .ok (.iconst 3, 1) := by decide +kernel
theorem dX12_handsOf_67 : decode cX12_handsOf 67 = .ok (.if_icmp .ge 7, 3) := by decide +kernel
theorem dX12_handsOf_70 : decode cX12_handsOf 70 = .ok (.iconst 1, 1) := by decide +kernel
theorem dX12_handsOf_71 : decode cX12_handsOf 71 = .ok (.goto 4, 3) := by decide +kernel
theorem dX12_handsOf_74 : decode cX12_handsOf 74 = .ok (.iconst 0, 1) := by decide +kernel
theorem dX12_handsOf_75 : decode cX12_handsOf 75 = .ok (.iadd, 1) := by decide +kernel
theorem dX12_handsOf_76 : decode cX12_handsOf 76 = .ok (.istore 5, 2) := by decide +kernel
theorem dX12_handsOf_78 : decode cX12_handsOf 78 = .ok (.iinc 6 1, 3) := by decide +kernel
theorem dX12_handsOf_81 : decode cX12_handsOf 81 = .ok (.goto (-52), 3) := by decide +kernel
theorem dX12_handsOf_84 : decode cX12_handsOf 84 = .ok (.iload_n 2, 1) := by decide +kernel
theorem dX12_handsOf_85 : decode cX12_handsOf 85 = .ok (.iload 5, 2) := by decide +kernel
theorem dX12_handsOf_87 : decode cX12_handsOf 87 = .ok (.invokestatic 149, 3) := by decide +kernel
theorem dX12_handsOf_90 : decode cX12_handsOf 90 = .ok (.istore_n 2, 1) := by decide +kernel
theorem dX12_handsOf_91 : decode cX12_handsOf 91 = .ok (.iinc 3 1, 3) := by decide +kernel
theorem dX12_handsOf_94 : decode cX12_handsOf 94 = .ok (.goto (-90), 3) := by decide +kernel
theorem dX12_handsOf_97 : decode cX12_handsOf 97 = .ok (.iload_n 2, 1) := by decide +kernel
theorem dX12_handsOf_98 : decode cX12_handsOf 98 = .ok (.ireturn, 1) := by decide +kernel
theorem dX12_put_0 : decode cX12_put 0 = .ok (.bipush 24, 2) := by decide +kernel
theorem dX12_put_2 : decode cX12_put 2 = .ok (.aload_n 0, 1) := by decide +kernel
theorem dX12_put_3 : decode cX12_put 3 = .ok (.getfield 252, 3) := by decide +kernel
theorem dX12_put_6 : decode cX12_put 6 = .ok (.imul, 1) := by decide +kernel
theorem dX12_put_7 : decode cX12_put 7 = .ok (.aload_n 0, 1) := by decide +kernel
theorem dX12_put_8 : decode cX12_put 8 = .ok (.getfield 31, 3) := by decide +kernel
theorem dX12_put_11 : decode cX12_put 11 = .ok (.aload_n 0, 1) := by decide +kernel
theorem dX12_put_12 : decode cX12_put 12 = .ok (.getfield 252, 3) := by decide +kernel
theorem dX12_put_15 : decode cX12_put 15 = .ok (.iaload, 1) := by decide +kernel
theorem dX12_put_16 : decode cX12_put 16 = .ok (.iadd, 1) := by decide +kernel
theorem dX12_put_17 : decode cX12_put 17 = .ok (.istore 5, 2) := by decide +kernel
theorem dX12_put_19 : decode cX12_put 19 = .ok (.aload_n 0, 1) := by decide +kernel
theorem dX12_put_20 : decode cX12_put 20 = .ok (.getfield 37, 3) := by decide +kernel
theorem dX12_put_23 : decode cX12_put 23 = .ok (.iload 5, 2) := by decide +kernel
theorem dX12_put_25 : decode cX12_put 25 = .ok (.iload_n 1, 1) := by decide +kernel
theorem dX12_put_26 : decode cX12_put 26 = .ok (.iastore, 1) := by decide +kernel
theorem dX12_put_27 : decode cX12_put 27 = .ok (.aload_n 0, 1) := by decide +kernel
theorem dX12_put_28 : decode cX12_put 28 = .ok (.getfield 46, 3) := by decide +kernel
theorem dX12_put_31 : decode cX12_put 31 = .ok (.iload 5, 2) := by decide +kernel
theorem dX12_put_33 : decode cX12_put 33 = .ok (.iload_n 2, 1) := by decide +kernel
theorem dX12_put_34 : decode cX12_put 34 = .ok (.iastore, 1) := by decide +kernel
theorem dX12_put_35 : decode cX12_put 35 = .ok (.aload_n 0, 1) := by decide +kernel
theorem dX12_put_36 : decode cX12_put 36 = .ok (.getfield 40, 3) := by decide +kernel
theorem dX12_put_39 : decode cX12_put 39 = .ok (.iload 5, 2) := by decide +kernel
theorem dX12_put_41 : decode cX12_put 41 = .ok (.iload_n 3, 1) := by decide +kernel
theorem dX12_put_42 : decode cX12_put 42 = .ok (.iastore, 1) := by decide +kernel
theorem dX12_put_43 : decode cX12_put 43 = .ok (.aload_n 0, 1) := by decide +kernel
theorem dX12_put_44 : decode cX12_put 44 = .ok (.getfield 43, 3) := by decide +kernel
theorem dX12_put_47 : decode cX12_put 47 = .ok (.iload 5, 2) := by decide +kernel
theorem dX12_put_49 : decode cX12_put 49 = .ok (.iload 4, 2) := by decide +kernel
theorem dX12_put_51 : decode cX12_put 51 = .ok (.iastore, 1) := by decide +kernel
theorem dX12_put_52 : decode cX12_put 52 = .ok (.aload_n 0, 1) := by decide +kernel
theorem dX12_put_53 : decode cX12_put 53 = .ok (.getfield 31, 3) := by decide +kernel
theorem dX12_put_56 : decode cX12_put 56 = .ok (.aload_n 0, 1) := by decide +kernel
theorem dX12_put_57 : decode cX12_put 57 = .ok (.getfield 252, 3) := by decide +kernel
theorem dX12_put_60 : decode cX12_put 60 = .ok (.dup2, 1) := by decide +kernel
theorem dX12_put_61 : decode cX12_put 61 = .ok (.iaload, 1) := by decide +kernel
theorem dX12_put_62 : decode cX12_put 62 = .ok (.iconst 1, 1) := by decide +kernel
theorem dX12_put_63 : decode cX12_put 63 = .ok (.iadd, 1) := by decide +kernel
theorem dX12_put_64 : decode cX12_put 64 = .ok (.iastore, 1) := by decide +kernel
theorem dX12_put_65 : decode cX12_put 65 = .ok (.return_, 1) := by decide +kernel
theorem dX12_startFigure_0 : decode cX12_startFigure 0 = .ok (.aload_n 0, 1) := by decide +kernel
theorem dX12_startFigure_1 : decode cX12_startFigure 1 = .ok (.getfield 31, 3) := by decide +kernel
theorem dX12_startFigure_4 : decode cX12_startFigure 4 = .ok (.aload_n 0, 1) := by decide +kernel
theorem dX12_startFigure_5 : decode cX12_startFigure 5 = .ok (.getfield 252, 3) := by decide +kernel
theorem dX12_startFigure_8 : decode cX12_startFigure 8 = .ok (.iconst 0, 1) := by decide +kernel
theorem dX12_startFigure_9 : decode cX12_startFigure 9 = .ok (.iastore, 1) := by decide +kernel
theorem dX12_startFigure_10 : decode cX12_startFigure 10 = .ok (.aload_n 0, 1) := by decide +kernel
theorem dX12_startFigure_11 : decode cX12_startFigure 11 = .ok (.getfield 25, 3) := by decide +kernel
theorem dX12_startFigure_14 : decode cX12_startFigure 14 = .ok (.aload_n 0, 1) := by decide +kernel
theorem dX12_startFigure_15 : decode cX12_startFigure 15 = .ok (.getfield 252, 3) := by decide +kernel
theorem dX12_startFigure_18 : decode cX12_startFigure 18 = .ok (.iconst 0, 1) := by decide +kernel
theorem dX12_startFigure_19 : decode cX12_startFigure 19 = .ok (.iastore, 1) := by decide +kernel
theorem dX12_startFigure_20 : decode cX12_startFigure 20 = .ok (.return_, 1) := by decide +kernel
theorem dX12_endFigure_0 : decode cX12_endFigure 0 = .ok (.iconst 0, 1) := by decide +kernel
theorem dX12_endFigure_1 : decode cX12_endFigure 1 = .ok (.istore_n 2, 1) := by decide +kernel
theorem dX12_endFigure_2 : decode cX12_endFigure 2 = .ok (.iconst 0, 1) := by decide +kernel
theorem dX12_endFigure_3 : decode cX12_endFigure 3 = .ok (.istore_n 3, 1) := by decide +kernel
theorem dX12_endFigure_4 : decode cX12_endFigure 4 = .ok (.iload_n 3, 1) := by decide +kernel
theorem dX12_endFigure_5 : decode cX12_endFigure 5 = .ok (.iload_n 1, 1) := by decide +kernel
theorem dX12_endFigure_6 : decode cX12_endFigure 6 = .ok (.if_icmp .ge 48, 3) := by decide +kernel
theorem dX12_endFigure_9 : decode cX12_endFigure 9 = .ok (.aload_n 0, 1) := by decide +kernel
theorem dX12_endFigure_10 : decode cX12_endFigure 10 = .ok (.getfield 58, 3) := by decide +kernel
theorem dX12_endFigure_13 : decode cX12_endFigure 13 = .ok (.iload_n 3, 1) := by decide +kernel
theorem dX12_endFigure_14 : decode cX12_endFigure 14 = .ok (.aload_n 0, 1) := by decide +kernel
theorem dX12_endFigure_15 : decode cX12_endFigure 15 = .ok (.getfield 52, 3) := by decide +kernel
theorem dX12_endFigure_18 : decode cX12_endFigure 18 = .ok (.iload_n 3, 1) := by decide +kernel
