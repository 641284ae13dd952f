theorem dX12_endFigure_19 : decode cX12_endFigure 19 = .ok (.iaload, 1) := by decide +kernel
theorem dX12_endFigure_20 : decode cX12_endFigure 20 = .ok (.iload_n 3, 1) := by decide +kernel
theorem dX12_endFigure_21 : decode cX12_endFigure 21 = .ok (.if_icmp .ne 7, 3) := by decide +kernel
theorem dX12_endFigure_24 : decode cX12_endFigure 24 = .ok (.iload_n 2, 1) := by decide +kernel
theorem dX12_endFigure_25 : decode cX12_endFigure 25 = .ok (.goto 4, 3) := by decide +kernel
theorem dX12_endFigure_28 : decode cX12_endFigure 28 = .ok (.iconst (-1), 1) := by decide +kernel
theorem dX12_endFigure_29 : decode cX12_endFigure 29 = .ok (.iastore, 1) := by decide +kernel
theorem dX12_endFigure_30 : decode cX12_endFigure 30 = .ok (.iload_n 2, 1) := by decide +kernel
theorem dX12_endFigure_31 : decode cX12_endFigure 31 = .ok (.aload_n 0, 1) := by decide +kernel
theorem dX12_endFigure_32 : decode cX12_endFigure 32 = .ok (.getfield 52, 3) := by decide +kernel
theorem dX12_endFigure_35 : decode cX12_endFigure 35 = .ok (.iload_n 3, 1) := by decide +kernel
theorem dX12_endFigure_36 : decode cX12_endFigure 36 = .ok (.iaload, 1) := by decide +kernel
theorem dX12_endFigure_37 : decode cX12_endFigure 37 = .ok (.iload_n 3, 1) := by decide +kernel
theorem dX12_endFigure_38 : decode cX12_endFigure 38 = .ok (.if_icmp .ne 7, 3) := by decide +kernel
theorem dX12_endFigure_41 : decode cX12_endFigure 41 = .ok (.iconst 1, 1) := by decide +kernel
theorem dX12_endFigure_42 : decode cX12_endFigure 42 = .ok (.goto 4, 3) := by decide +kernel
theorem dX12_endFigure_45 : decode cX12_endFigure 45 = .ok (.iconst 0, 1) := by decide +kernel
theorem dX12_endFigure_46 : decode cX12_endFigure 46 = .ok (.iadd, 1) := by decide +kernel
theorem dX12_endFigure_47 : decode cX12_endFigure 47 = .ok (.istore_n 2, 1) := by decide +kernel
theorem dX12_endFigure_48 : decode cX12_endFigure 48 = .ok (.iinc 3 1, 3) := by decide +kernel
theorem dX12_endFigure_51 : decode cX12_endFigure 51 = .ok (.goto (-47), 3) := by decide +kernel
theorem dX12_endFigure_54 : decode cX12_endFigure 54 = .ok (.bipush 24, 2) := by decide +kernel
theorem dX12_endFigure_56 : decode cX12_endFigure 56 = .ok (.aload_n 0, 1) := by decide +kernel
theorem dX12_endFigure_57 : decode cX12_endFigure 57 = .ok (.getfield 252, 3) := by decide +kernel
theorem dX12_endFigure_60 : decode cX12_endFigure 60 = .ok (.imul, 1) := by decide +kernel
theorem dX12_endFigure_61 : decode cX12_endFigure 61 = .ok (.istore_n 3, 1) := by decide +kernel
theorem dX12_endFigure_62 : decode cX12_endFigure 62 = .ok (.iload_n 3, 1) := by decide +kernel
theorem dX12_endFigure_63 : decode cX12_endFigure 63 = .ok (.bipush 24, 2) := by decide +kernel
theorem dX12_endFigure_65 : decode cX12_endFigure 65 = .ok (.aload_n 0, 1) := by decide +kernel
theorem dX12_endFigure_66 : decode cX12_endFigure 66 = .ok (.getfield 252, 3) := by decide +kernel
theorem dX12_endFigure_69 : decode cX12_endFigure 69 = .ok (.imul, 1) := by decide +kernel
theorem dX12_endFigure_70 : decode cX12_endFigure 70 = .ok (.aload_n 0, 1) := by decide +kernel
theorem dX12_endFigure_71 : decode cX12_endFigure 71 = .ok (.getfield 31, 3) := by decide +kernel
theorem dX12_endFigure_74 : decode cX12_endFigure 74 = .ok (.aload_n 0, 1) := by decide +kernel
theorem dX12_endFigure_75 : decode cX12_endFigure 75 = .ok (.getfield 252, 3) := by decide +kernel
theorem dX12_endFigure_78 : decode cX12_endFigure 78 = .ok (.iaload, 1) := by decide +kernel
theorem dX12_endFigure_79 : decode cX12_endFigure 79 = .ok (.iadd, 1) := by decide +kernel
theorem dX12_endFigure_80 : decode cX12_endFigure 80 = .ok (.if_icmp .ge 51, 3) := by decide +kernel
theorem dX12_endFigure_83 : decode cX12_endFigure 83 = .ok (.aload_n 0, 1) := by decide +kernel
theorem dX12_endFigure_84 : decode cX12_endFigure 84 = .ok (.getfield 40, 3) := by decide +kernel
theorem dX12_endFigure_87 : decode cX12_endFigure 87 = .ok (.iload_n 3, 1) := by decide +kernel
theorem dX12_endFigure_88 : decode cX12_endFigure 88 = .ok (.aload_n 0, 1) := by decide +kernel
theorem dX12_endFigure_89 : decode cX12_endFigure 89 = .ok (.getfield 58, 3) := by decide +kernel
theorem dX12_endFigure_92 : decode cX12_endFigure 92 = .ok (.aload_n 0, 1) := by decide +kernel
theorem dX12_endFigure_93 : decode cX12_endFigure 93 = .ok (.aload_n 0, 1) := by decide +kernel
theorem dX12_endFigure_94 : decode cX12_endFigure 94 = .ok (.getfield 40, 3) := by decide +kernel
theorem dX12_endFigure_97 : decode cX12_endFigure 97 = .ok (.iload_n 3, 1) := by decide +kernel
theorem dX12_endFigure_98 : decode cX12_endFigure 98 = .ok (.iaload, 1) := by decide +kernel
theorem dX12_endFigure_99 : decode cX12_endFigure 99 = .ok (.invokevirtual 145, 3) := by decide +kernel
theorem dX12_endFigure_102 : decode cX12_endFigure 102 = .ok (.iaload, 1) := by decide +kernel
theorem dX12_endFigure_103 : decode cX12_endFigure 103 = .ok (.iastore, 1) := by decide +kernel
theorem dX12_endFigure_104 : decode cX12_endFigure 104 = .ok (.aload_n 0, 1) := by decide +kernel
theorem dX12_endFigure_105 : decode cX12_endFigure 105 = .ok (.getfield 43, 3) := by decide +kernel
theorem dX12_endFigure_108 : decode cX12_endFigure 108 = .ok (.iload_n 3, 1) := by decide +kernel
theorem dX12_endFigure_109 : decode cX12_endFigure 109 = .ok (.aload_n 0, 1) := by decide +kernel
theorem dX12_endFigure_110 : decode cX12_endFigure 110 = .ok (.getfield 58, 3) := by decide +kernel
theorem dX12_endFigure_113 : decode cX12_endFigure 113 = .ok (.aload_n 0, 1) := by decide +kernel
theorem dX12_endFigure_114 : decode cX12_endFigure 114 = .ok (.aload_n 0, 1) := by decide +kernel
theorem dX12_endFigure_115 : decode cX12_endFigure 115 = .ok (.getfield 43, 3) := by decide +kernel
theorem dX12_endFigure_118 : decode cX12_endFigure 118 = .ok (.iload_n 3, 1) := by decide +kernel
theorem dX12_endFigure_119 : decode cX12_endFigure 119 = .ok (.iaload, 1) := by decide +kernel
theorem dX12_endFigure_120 : decode cX12_endFigure 120 = .ok (.invokevirtual 145, 3) := by decide +kernel
theorem dX12_endFigure_123 : decode cX12_endFigure 123 = .ok (.iaload, 1) := by decide +kernel
theorem dX12_endFigure_124 : decode cX12_endFigure 124 = .ok (.iastore, 1) := by decide +kernel
theorem dX12_endFigure_125 : decode cX12_endFigure 125 = .ok (.iinc 3 1, 3) := by decide +kernel
theorem dX12_endFigure_128 : decode cX12_endFigure 128 = .ok (.goto (-66), 3) := by decide +kernel
theorem dX12_endFigure_131 : decode cX12_endFigure 131 = .ok (.aload_n 0, 1) := by decide +kernel
theorem dX12_endFigure_132 : decode cX12_endFigure 132 = .ok (.getfield 34, 3) := by decide +kernel
theorem dX12_endFigure_135 : decode cX12_endFigure 135 = .ok (.aload_n 0, 1) := by decide +kernel
theorem dX12_endFigure_136 : decode cX12_endFigure 136 = .ok (.getfield 252, 3) := by decide +kernel
theorem dX12_endFigure_139 : decode cX12_endFigure 139 = .ok (.iload_n 2, 1) := by decide +kernel
theorem dX12_endFigure_140 : decode cX12_endFigure 140 = .ok (.iastore, 1) := by decide +kernel
theorem dX12_endFigure_141 : decode cX12_endFigure 141 = .ok (.aload_n 0, 1) := by decide +kernel
theorem dX12_endFigure_142 : decode cX12_endFigure 142 = .ok (.getfield 49, 3) := by decide +kernel
theorem dX12_endFigure_145 : decode cX12_endFigure 145 = .ok (.aload_n 0, 1) := by decide +kernel
theorem dX12_endFigure_146 : decode cX12_endFigure 146 = .ok (.getfield 252, 3) := by decide +kernel
theorem dX12_endFigure_149 : decode cX12_endFigure 149 = .ok (.aload_n 0, 1) := by decide +kernel
theorem dX12_endFigure_150 : decode cX12_endFigure 150 = .ok (.aload_n 0, 1) := by decide +kernel
theorem dX12_endFigure_151 : decode cX12_endFigure 151 = .ok (.getfield 252, 3) := by decide +kernel
theorem dX12_endFigure_154 : decode cX12_endFigure 154 = .ok (.invokevirtual 313, 3) := by decide +kernel
theorem dX12_endFigure_157 : decode cX12_endFigure 157 = .ok (.iastore, 1) := by decide +kernel
theorem dX12_endFigure_158 : decode cX12_endFigure 158 = .ok (.aload_n 0, 1) := by decide +kernel
theorem dX12_endFigure_159 : decode cX12_endFigure 159 = .ok (.dup, 1) := by decide +kernel
theorem dX12_endFigure_160 : decode cX12_endFigure 160 = .ok (.getfield 252, 3) := by decide +kernel
theorem dX12_endFigure_163 : decode cX12_endFigure 163 = .ok (.iconst 1, 1) := by decide +kernel
theorem dX12_endFigure_164 : decode cX12_endFigure 164 = .ok (.iadd, 1) := by decide +kernel
theorem dX12_endFigure_165 : decode cX12_endFigure 165 = .ok (.putfield 252, 3) := by decide +kernel
theorem dX12_endFigure_168 : decode cX12_endFigure 168 = .ok (.return_, 1) := by decide +kernel
theorem dX12_plain_0 : decode cX12_plain 0 = .ok (.aload_n 0, 1) := by decide +kernel
theorem dX12_plain_1 : decode cX12_plain 1 = .ok (.iload_n 1, 1) := by decide +kernel
theorem dX12_plain_2 : decode cX12_plain 2 = .ok (.invokevirtual 284, 3) := by decide +kernel
theorem dX12_plain_5 : decode cX12_plain 5 = .ok (.ifCond .eq 12, 3) := by decide +kernel
theorem dX12_plain_8 : decode cX12_plain 8 = .ok (.aload_n 0, 1) := by decide +kernel
theorem dX12_plain_9 : decode cX12_plain 9 = .ok (.getfield 252, 3) := by decide +kernel
theorem dX12_plain_12 : decode cX12_plain 12 = .ok (.bipush 12, 2) := by decide +kernel
theorem dX12_plain_14 : decode cX12_plain 14 = .ok (.if_icmp .ne 5, 3) := by decide +kernel
theorem dX12_plain_17 : decode cX12_plain 17 = .ok (.iconst (-1), 1) := by decide +kernel
theorem dX12_plain_18 : decode cX12_plain 18 = .ok (.ireturn, 1) := by decide +kernel
theorem dX12_plain_19 : decode cX12_plain 19 = .ok (.aload_n 0, 1) := by decide +kernel
theorem dX12_plain_20 : decode cX12_plain 20 = .ok (.invokevirtual 316, 3) := by decide +kernel
theorem dX12_plain_23 : decode cX12_plain 23 = .ok (.iconst 0, 1) := by decide +kernel
theorem dX12_plain_24 : decode cX12_plain 24 = .ok (.istore_n 2, 1) := by decide +kernel
theorem dX12_plain_25 : decode cX12_plain 25 = .ok (.iload_n 2, 1) := by decide +kernel
theorem dX12_plain_26 : decode cX12_plain 26 = .ok (.aload_n 0, 1) := by decide +kernel
theorem dX12_plain_27 : decode cX12_plain 27 = .ok (.getfield 25, 3) := by decide +kernel
theorem dX12_plain_30 : decode cX12_plain 30 = .ok (.iload_n 1, 1) := by decide +kernel
theorem dX12_plain_31 : decode cX12_plain 31 = .ok (.iaload, 1) := by decide +kernel
theorem dX12_plain_32 : decode cX12_plain 32 = .ok (.if_icmp .ge 34, 3) := by decide +kernel
theorem dX12_plain_35 : decode cX12_plain 35 = .ok (.aload_n 0, 1) := by decide +kernel
theorem dX12_plain_36 : decode cX12_plain 36 = .ok (.getfield 28, 3) := by decide +kernel
theorem dX12_plain_39 : decode cX12_plain 39 = .ok (.bipush 6, 2) := by decide +kernel
theorem dX12_plain_41 : decode cX12_plain 41 = .ok (.aload_n 0, 1) := by decide +kernel
theorem dX12_plain_42 : decode cX12_plain 42 = .ok (.getfield 252, 3) := by decide +kernel
theorem dX12_plain_45 : decode cX12_plain 45 = .ok (.imul, 1) := by decide +kernel
theorem dX12_plain_46 : decode cX12_plain 46 = .ok (.iload_n 2, 1) := by decide +kernel
theorem dX12_plain_47 : decode cX12_plain 47 = .ok (.iadd, 1) := by decide +kernel
theorem dX12_plain_48 : decode cX12_plain 48 = .ok (.aload_n 0, 1) := by decide +kernel
theorem dX12_plain_49 : decode cX12_plain 49 = .ok (.getfield 28, 3) := by decide +kernel
theorem dX12_plain_52 : decode cX12_plain 52 = .ok (.bipush 6, 2) := by decide +kernel
theorem dX12_plain_54 : decode cX12_plain 54 = .ok (.iload_n 1, 1) := by decide +kernel
theorem dX12_plain_55 : decode cX12_plain 55 = .ok (.imul, 1) := by decide +kernel
theorem dX12_plain_56 : decode cX12_plain 56 = .ok (.iload_n 2, 1) := by decide +kernel
theorem dX12_plain_57 : decode cX12_plain 57 = .ok (.iadd, 1) := by decide +kernel
theorem dX12_plain_58 : decode cX12_plain 58 = .ok (.iaload, 1) := by decide +kernel
theorem dX12_plain_59 : decode cX12_plain 59 = .ok (.iastore, 1) := by decide +kernel
theorem dX12_plain_60 : decode cX12_plain 60 = .ok (.iinc 2 1, 3) := by decide +kernel
theorem dX12_plain_63 : decode cX12_plain 63 = .ok (.goto (-38), 3) := by decide +kernel
theorem dX12_plain_66 : decode cX12_plain 66 = .ok (.aload_n 0, 1) := by decide +kernel
theorem dX12_plain_67 : decode cX12_plain 67 = .ok (.getfield 25, 3) := by decide +kernel
theorem dX12_plain_70 : decode cX12_plain 70 = .ok (.aload_n 0, 1) := by decide +kernel
theorem dX12_plain_71 : decode cX12_plain 71 = .ok (.getfield 252, 3) := by decide +kernel
theorem dX12_plain_74 : decode cX12_plain 74 = .ok (.aload_n 0, 1) := by decide +kernel
theorem dX12_plain_75 : decode cX12_plain 75 = .ok (.getfield 25, 3) := by decide +kernel
theorem dX12_plain_78 : decode cX12_plain 78 = .ok (.iload_n 1, 1) := by decide +kernel
theorem dX12_plain_79 : decode cX12_plain 79 = .ok (.iaload, 1) := by decide +kernel
theorem dX12_plain_80 : decode cX12_plain 80 = .ok (.iastore, 1) := by decide +kernel
theorem dX12_plain_81 : decode cX12_plain 81 = .ok (.iconst 0, 1) := by decide +kernel
theorem dX12_plain_82 : decode cX12_plain 82 = .ok (.istore_n 2, 1) := by decide +kernel
theorem dX12_plain_83 : decode cX12_plain 83 = .ok (.iload_n 2, 1) := by decide +kernel
theorem dX12_plain_84 : decode cX12_plain 84 = .ok (.aload_n 0, 1) := by decide +kernel
theorem dX12_plain_85 : decode cX12_plain 85 = .ok (.getfield 34, 3) := by decide +kernel
theorem dX12_plain_88 : decode cX12_plain 88 = .ok (.iload_n 1, 1) := by decide +kernel
theorem dX12_plain_89 : decode cX12_plain 89 = .ok (.iaload, 1) := by decide +kernel
theorem dX12_plain_90 : decode cX12_plain 90 = .ok (.if_icmp .ge 16, 3) := by decide +kernel
theorem dX12_plain_93 : decode cX12_plain 93 = .ok (.aload_n 0, 1) := by decide +kernel
theorem dX12_plain_94 : decode cX12_plain 94 = .ok (.getfield 52, 3) := by decide +kernel
theorem dX12_plain_97 : decode cX12_plain 97 = .ok (.iload_n 2, 1) := by decide +kernel
theorem dX12_plain_98 : decode cX12_plain 98 = .ok (.iload_n 2, 1) := by decide +kernel
theorem dX12_plain_99 : decode cX12_plain 99 = .ok (.iastore, 1) := by decide +kernel
theorem dX12_plain_100 : decode cX12_plain 100 = .ok (.iinc 2 1, 3) := by decide +kernel
theorem dX12_plain_103 : decode cX12_plain 103 = .ok (.goto (-20), 3) := by decide +kernel
theorem dX12_plain_106 : decode cX12_plain 106 = .ok (.iconst 0, 1) := by decide +kernel
theorem dX12_plain_107 : decode cX12_plain 107 = .ok (.istore_n 2, 1) := by decide +kernel
theorem dX12_plain_108 : decode cX12_plain 108 = .ok (.iconst 0, 1) := by decide +kernel
theorem dX12_plain_109 : decode cX12_plain 109 = .ok (.istore_n 3, 1) := by decide +kernel
theorem dX12_plain_110 : decode cX12_plain 110 = .ok (.iload_n 3, 1) := by decide +kernel
theorem dX12_plain_111 : decode cX12_plain 111 = .ok (.aload_n 0, 1) := by decide +kernel
theorem dX12_plain_112 : decode cX12_plain 112 = .ok (.getfield 31, 3) := by decide +kernel
theorem dX12_plain_115 : decode cX12_plain 115 = .ok (.iload_n 1, 1) := by decide +kernel
theorem dX12_plain_116 : decode cX12_plain 116 = .ok (.iaload, 1) := by decide +kernel
theorem dX12_plain_117 : decode cX12_plain 117 = .ok (.if_icmp .ge 121, 3) := by decide +kernel
theorem dX12_plain_120 : decode cX12_plain 120 = .ok (.bipush 24, 2) := by decide +kernel
theorem dX12_plain_122 : decode cX12_plain 122 = .ok (.iload_n 1, 1) := by decide +kernel
theorem dX12_plain_123 : decode cX12_plain 123 = .ok (.imul, 1) := by decide +kernel
theorem dX12_plain_124 : decode cX12_plain 124 = .ok (.iload_n 3, 1) := by decide +kernel
theorem dX12_plain_125 : decode cX12_plain 125 = .ok (.iadd, 1) := by decide +kernel
theorem dX12_plain_126 : decode cX12_plain 126 = .ok (.istore 4, 2) := by decide +kernel
theorem dX12_plain_128 : decode cX12_plain 128 = .ok (.aload_n 0, 1) := by decide +kernel
theorem dX12_plain_129 : decode cX12_plain 129 = .ok (.iload_n 1, 1) := by decide +kernel
theorem dX12_plain_130 : decode cX12_plain 130 = .ok (.iload_n 3, 1) := by decide +kernel
theorem dX12_plain_131 : decode cX12_plain 131 = .ok (.invokevirtual 294, 3) := by decide +kernel
theorem dX12_plain_134 : decode cX12_plain 134 = .ok (.ifCond .eq 28, 3) := by decide +kernel
theorem dX12_plain_137 : decode cX12_plain 137 = .ok (.aload_n 0, 1) := by decide +kernel
theorem dX12_plain_138 : decode cX12_plain 138 = .ok (.iload_n 1, 1) := by decide +kernel
theorem dX12_plain_139 : decode cX12_plain 139 = .ok (.iload_n 3, 1) := by decide +kernel
theorem dX12_plain_140 : decode cX12_plain 140 = .ok (.invokevirtual 298, 3) := by decide +kernel
theorem dX12_plain_143 : decode cX12_plain 143 = .ok (.ifCond .eq 19, 3) := by decide +kernel
theorem dX12_plain_146 : decode cX12_plain 146 = .ok (.aload_n 0, 1) := by decide +kernel
theorem dX12_plain_147 : decode cX12_plain 147 = .ok (.getfield 52, 3) := by decide +kernel
theorem dX12_plain_150 : decode cX12_plain 150 = .ok (.aload_n 0, 1) := by decide +kernel
theorem dX12_plain_151 : decode cX12_plain 151 = .ok (.getfield 43, 3) := by decide +kernel
theorem dX12_plain_154 : decode cX12_plain 154 = .ok (.iload 4, 2) := by decide +kernel
theorem dX12_plain_156 : decode cX12_plain 156 = .ok (.iaload, 1) := by decide +kernel
theorem dX12_plain_157 : decode cX12_plain 157 = .ok (.iconst (-1), 1) := by decide +kernel
theorem dX12_plain_158 : decode cX12_plain 158 = .ok (.iastore, 1) := by decide +kernel
theorem dX12_plain_159 : decode cX12_plain 159 = .ok (.goto 73, 3) := by decide +kernel
theorem dX12_plain_162 : decode cX12_plain 162 = .ok (.iconst 0, 1) := by decide +kernel
theorem dX12_plain_163 : decode cX12_plain 163 = .ok (.istore 5, 2) := by decide +kernel
theorem dX12_plain_165 : decode cX12_plain 165 = .ok (.iload_n 2, 1) := by decide +kernel
theorem dX12_plain_166 : decode cX12_plain 166 = .ok (.istore 6, 2) := by decide +kernel
theorem dX12_plain_168 : decode cX12_plain 168 = .ok (.iload 6, 2) := by decide +kernel
theorem dX12_plain_170 : decode cX12_plain 170 = .ok (.iload_n 3, 1) := by decide +kernel
theorem dX12_plain_171 : decode cX12_plain 171 = .ok (.if_icmp .gt 26, 3) := by decide +kernel
theorem dX12_plain_174 : decode cX12_plain 174 = .ok (.iload 5, 2) := by decide +kernel
theorem dX12_plain_176 : decode cX12_plain 176 = .ok (.aload_n 0, 1) := by decide +kernel
theorem dX12_plain_177 : decode cX12_plain 177 = .ok (.getfield 37, 3) := by decide +kernel
theorem dX12_plain_180 : decode cX12_plain 180 = .ok (.bipush 24, 2) := by decide +kernel
theorem dX12_plain_182 : decode cX12_plain 182 = .ok (.iload_n 1, 1) := by decide +kernel
theorem dX12_plain_183 : decode cX12_plain 183 = .ok (.imul, 1) := by decide +kernel
theorem dX12_plain_184 : decode cX12_plain 184 = .ok (.iload 6, 2) := by decide +kernel
theorem dX12_plain_186 : decode cX12_plain 186 = .ok (.iadd, 1) := by decide +kernel
theorem dX12_plain_187 : decode cX12_plain 187 = .ok (.iaload, 1) := by decide +kernel
theorem dX12_plain_188 : decode cX12_plain 188 = .ok (.iadd, 1) := by decide +kernel
theorem dX12_plain_189 : decode cX12_plain 189 = .ok (.istore 5, 2) := by decide +kernel
theorem dX12_plain_191 : decode cX12_plain 191 = .ok (.iinc 6 1, 3) := by decide +kernel
theorem dX12_plain_194 : decode cX12_plain 194 = .ok (.goto (-26), 3) := by decide +kernel
theorem dX12_plain_197 : decode cX12_plain 197 = .ok (.aload_n 0, 1) := by decide +kernel
theorem dX12_plain_198 : decode cX12_plain 198 = .ok (.iload 5, 2) := by decide +kernel
theorem dX12_plain_200 : decode cX12_plain 200 = .ok (.aload_n 0, 1) := by decide +kernel
theorem dX12_plain_201 : decode cX12_plain 201 = .ok (.getfield 46, 3) := by decide +kernel
theorem dX12_plain_204 : decode cX12_plain 204 = .ok (.iload 4, 2) := by decide +kernel
theorem dX12_plain_206 : decode cX12_plain 206 = .ok (.iaload, 1) := by decide +kernel
theorem dX12_plain_207 : decode cX12_plain 207 = .ok (.aload_n 0, 1) := by decide +kernel
theorem dX12_plain_208 : decode cX12_plain 208 = .ok (.getfield 40, 3) := by decide +kernel
theorem dX12_plain_211 : decode cX12_plain 211 = .ok (.bipush 24, 2) := by decide +kernel
theorem dX12_plain_213 : decode cX12_plain 213 = .ok (.iload_n 1, 1) := by decide +kernel
theorem dX12_plain_214 : decode cX12_plain 214 = .ok (.imul, 1) := by decide +kernel
theorem dX12_plain_215 : decode cX12_plain 215 = .ok (.iload_n 2, 1) := by decide +kernel
theorem dX12_plain_216 : decode cX12_plain 216 = .ok (.iadd, 1) := by decide +kernel
theorem dX12_plain_217 : decode cX12_plain 217 = .ok (.iaload, 1) := by decide +kernel
theorem dX12_plain_218 : decode cX12_plain 218 = .ok (.aload_n 0, 1) := by decide +kernel
theorem dX12_plain_219 : decode cX12_plain 219 = .ok (.getfield 43, 3) := by decide +kernel
theorem dX12_plain_222 : decode cX12_plain 222 = .ok (.iload 4, 2) := by decide +kernel
theorem dX12_plain_224 : decode cX12_plain 224 = .ok (.iaload, 1) := by decide +kernel
theorem dX12_plain_225 : decode cX12_plain 225 = .ok (.invokevirtual 319, 3) := by decide +kernel
theorem dX12_plain_228 : decode cX12_plain 228 = .ok (.iload_n 3, 1) := by decide +kernel
theorem dX12_plain_229 : decode cX12_plain 229 = .ok (.iconst 1, 1) := by decide +kernel
theorem dX12_plain_230 : decode cX12_plain 230 = .ok (.iadd, 1) := by decide +kernel
theorem dX12_plain_231 : decode cX12_plain 231 = .ok (.istore_n 2, 1) := by decide +kernel
theorem dX12_plain_232 : decode cX12_plain 232 = .ok (.iinc 3 1, 3) := by decide +kernel
theorem dX12_plain_235 : decode cX12_plain 235 = .ok (.goto (-125), 3) := by decide +kernel
theorem dX12_plain_238 : decode cX12_plain 238 = .ok (.aload_n 0, 1) := by decide +kernel
theorem dX12_plain_239 : decode cX12_plain 239 = .ok (.aload_n 0, 1) := by decide +kernel
theorem dX12_plain_240 : decode cX12_plain 240 = .ok (.getfield 34, 3) := by decide +kernel
theorem dX12_plain_243 : decode cX12_plain 243 = .ok (.iload_n 1, 1) := by decide +kernel
theorem dX12_plain_244 : decode cX12_plain 244 = .ok (.iaload, 1) := by decide +kernel
theorem dX12_plain_245 : decode cX12_plain 245 = .ok (.invokevirtual 323, 3) := by decide +kernel
theorem dX12_plain_248 : decode cX12_plain 248 = .ok (.aload_n 0, 1) := by decide +kernel
theorem dX12_plain_249 : decode cX12_plain 249 = .ok (.getfield 252, 3) := by decide +kernel
theorem dX12_plain_252 : decode cX12_plain 252 = .ok (.iconst 1, 1) := by decide +kernel
theorem dX12_plain_253 : decode cX12_plain 253 = .ok (.isub, 1) := by decide +kernel
theorem dX12_plain_254 : decode cX12_plain 254 = .ok (.ireturn, 1) := by decide +kernel
theorem dX12_add_0 : decode cX12_add 0 = .ok (.aload_n 0, 1) := by decide +kernel
theorem dX12_add_1 : decode cX12_add 1 = .ok (.iload_n 1, 1) := by decide +kernel
theorem dX12_add_2 : decode cX12_add 2 = .ok (.iload_n 3, 1) := by decide +kernel
theorem dX12_add_3 : decode cX12_add 3 = .ok (.invokevirtual 307, 3) := by decide +kernel
theorem dX12_add_6 : decode cX12_add 6 = .ok (.ifCond .eq 58, 3) := by decide +kernel
theorem dX12_add_9 : decode cX12_add 9 = .ok (.aload_n 0, 1) := by decide +kernel
theorem dX12_add_10 : decode cX12_add 10 = .ok (.iload_n 2, 1) := by decide +kernel
theorem dX12_add_11 : decode cX12_add 11 = .ok (.iload 4, 2) := by decide +kernel
theorem dX12_add_13 : decode cX12_add 13 = .ok (.invokevirtual 307, 3) := by decide +kernel
theorem dX12_add_16 : decode cX12_add 16 = .ok (.ifCond .eq 48, 3) := by decide +kernel
theorem dX12_add_19 : decode cX12_add 19 = .ok (.aload_n 0, 1) := by decide +kernel
theorem dX12_add_20 : decode cX12_add 20 = .ok (.getfield 31, 3) := by decide +kernel
theorem dX12_add_23 : decode cX12_add 23 = .ok (.iload_n 1, 1) := by decide +kernel
theorem dX12_add_24 : decode cX12_add 24 = .ok (.iaload, 1) := by decide +kernel
theorem dX12_add_25 : decode cX12_add 25 = .ok (.aload_n 0, 1) := by decide +kernel
theorem dX12_add_26 : decode cX12_add 26 = .ok (.getfield 31, 3) := by decide +kernel
theorem dX12_add_29 : decode cX12_add 29 = .ok (.iload_n 2, 1) := by decide +kernel
theorem dX12_add_30 : decode cX12_add 30 = .ok (.iaload, 1) := by decide +kernel
theorem dX12_add_31 : decode cX12_add 31 = .ok (.iadd, 1) := by decide +kernel
theorem dX12_add_32 : decode cX12_add 32 = .ok (.bipush 24, 2) := by decide +kernel
theorem dX12_add_34 : decode cX12_add 34 = .ok (.if_icmp .gt 30, 3) := by decide +kernel
theorem dX12_add_37 : decode cX12_add 37 = .ok (.aload_n 0, 1) := by decide +kernel
theorem dX12_add_38 : decode cX12_add 38 = .ok (.getfield 25, 3) := by decide +kernel
theorem dX12_add_41 : decode cX12_add 41 = .ok (.iload_n 1, 1) := by decide +kernel
theorem dX12_add_42 : decode cX12_add 42 = .ok (.iaload, 1) := by decide +kernel
theorem dX12_add_43 : decode cX12_add 43 = .ok (.aload_n 0, 1) := by decide +kernel
theorem dX12_add_44 : decode cX12_add 44 = .ok (.getfield 25, 3) := by decide +kernel
theorem dX12_add_47 : decode cX12_add 47 = .ok (.iload_n 2, 1) := by decide +kernel
theorem dX12_add_48 : decode cX12_add 48 = .ok (.iaload, 1) := by decide +kernel
theorem dX12_add_49 : decode cX12_add 49 = .ok (.iadd, 1) := by decide +kernel
theorem dX12_add_50 : decode cX12_add 50 = .ok (.bipush 6, 2) := by decide +kernel
theorem dX12_add_52 : decode cX12_add 52 = .ok (.if_icmp .gt 12, 3) := by decide +kernel
theorem dX12_add_55 : decode cX12_add 55 = .ok (.aload_n 0, 1) := by decide +kernel
theorem dX12_add_56 : decode cX12_add 56 = .ok (.getfield 252, 3) := by decide +kernel
theorem dX12_add_59 : decode cX12_add 59 = .ok (.bipush 12, 2) := by decide +kernel
theorem dX12_add_61 : decode cX12_add 61 = .ok (.if_icmp .ne 5, 3) := by decide +kernel
theorem dX12_add_64 : decode cX12_add 64 = .ok (.iconst (-1), 1) := by decide +kernel
theorem dX12_add_65 : decode cX12_add 65 = .ok (.ireturn, 1) := by decide +kernel
theorem dX12_add_66 : decode cX12_add 66 = .ok (.aload_n 0, 1) := by decide +kernel
theorem dX12_add_67 : decode cX12_add 67 = .ok (.invokevirtual 316, 3) := by decide +kernel
theorem dX12_add_70 : decode cX12_add 70 = .ok (.iconst 0, 1) := by decide +kernel
theorem dX12_add_71 : decode cX12_add 71 = .ok (.istore 5, 2) := by decide +kernel
theorem dX12_add_73 : decode cX12_add 73 = .ok (.iload 5, 2) := by decide +kernel
theorem dX12_add_75 : decode cX12_add 75 = .ok (.aload_n 0, 1) := by decide +kernel
theorem dX12_add_76 : decode cX12_add 76 = .ok (.getfield 34, 3) := by decide +kernel
theorem dX12_add_79 : decode cX12_add 79 = .ok (.iload_n 1, 1) := by decide +kernel
theorem dX12_add_80 : decode cX12_add 80 = .ok (.iaload, 1) := by decide +kernel
theorem dX12_add_81 : decode cX12_add 81 = .ok (.aload_n 0, 1) := by decide +kernel
theorem dX12_add_82 : decode cX12_add 82 = .ok (.getfield 34, 3) := by decide +kernel
theorem dX12_add_85 : decode cX12_add 85 = .ok (.iload_n 2, 1) := by decide +kernel
theorem dX12_add_86 : decode cX12_add 86 = .ok (.iaload, 1) := by decide +kernel
theorem dX12_add_87 : decode cX12_add 87 = .ok (.iadd, 1) := by decide +kernel
theorem dX12_add_88 : decode cX12_add 88 = .ok (.if_icmp .ge 18, 3) := by decide +kernel
theorem dX12_add_91 : decode cX12_add 91 = .ok (.aload_n 0, 1) := by decide +kernel
theorem dX12_add_92 : decode cX12_add 92 = .ok (.getfield 52, 3) := by decide +kernel
theorem dX12_add_95 : decode cX12_add 95 = .ok (.iload 5, 2) := by decide +kernel
theorem dX12_add_97 : decode cX12_add 97 = .ok (.iload 5, 2) := by decide +kernel
theorem dX12_add_99 : decode cX12_add 99 = .ok (.iastore, 1) := by decide +kernel
theorem dX12_add_100 : decode cX12_add 100 = .ok (.iinc 5 1, 3) := by decide +kernel
theorem dX12_add_103 : decode cX12_add 103 = .ok (.goto (-30), 3) := by decide +kernel
theorem dX12_add_106 : decode cX12_add 106 = .ok (.aload_n 0, 1) := by decide +kernel
theorem dX12_add_107 : decode cX12_add 107 = .ok (.getfield 52, 3) := by decide +kernel
theorem dX12_add_110 : decode cX12_add 110 = .ok (.aload_n 0, 1) := by decide +kernel
theorem dX12_add_111 : decode cX12_add 111 = .ok (.getfield 34, 3) := by decide +kernel
theorem dX12_add_114 : decode cX12_add 114 = .ok (.iload_n 1, 1) := by decide +kernel
theorem dX12_add_115 : decode cX12_add 115 = .ok (.iaload, 1) := by decide +kernel
theorem dX12_add_116 : decode cX12_add 116 = .ok (.iload 4, 2) := by decide +kernel
theorem dX12_add_118 : decode cX12_add 118 = .ok (.iadd, 1) := by decide +kernel
theorem dX12_add_119 : decode cX12_add 119 = .ok (.iload_n 3, 1) := by decide +kernel
theorem dX12_add_120 : decode cX12_add 120 = .ok (.iastore, 1) := by decide +kernel
theorem dX12_add_121 : decode cX12_add 121 = .ok (.aload_n 0, 1) := by decide +kernel
theorem dX12_add_122 : decode cX12_add 122 = .ok (.iload_n 1, 1) := by decide +kernel
theorem dX12_add_123 : decode cX12_add 123 = .ok (.iconst 0, 1) := by decide +kernel
theorem dX12_add_124 : decode cX12_add 124 = .ok (.iconst 0, 1) := by decide +kernel
theorem dX12_add_125 : decode cX12_add 125 = .ok (.invokevirtual 326, 3) := by decide +kernel
theorem dX12_add_128 : decode cX12_add 128 = .ok (.aload_n 0, 1) := by decide +kernel
theorem dX12_add_129 : decode cX12_add 129 = .ok (.iload_n 2, 1) := by decide +kernel
theorem dX12_add_130 : decode cX12_add 130 = .ok (.aload_n 0, 1) := by decide +kernel
theorem dX12_add_131 : decode cX12_add 131 = .ok (.getfield 25, 3) := by decide +kernel
theorem dX12_add_134 : decode cX12_add 134 = .ok (.iload_n 1, 1) := by decide +kernel
theorem dX12_add_135 : decode cX12_add 135 = .ok (.iaload, 1) := by decide +kernel
theorem dX12_add_136 : decode cX12_add 136 = .ok (.aload_n 0, 1) := by decide +kernel
theorem dX12_add_137 : decode cX12_add 137 = .ok (.getfield 34, 3) := by decide +kernel
theorem dX12_add_140 : decode cX12_add 140 = .ok (.iload_n 1, 1) := by decide +kernel
theorem dX12_add_141 : decode cX12_add 141 = .ok (.iaload, 1) := by decide +kernel
theorem dX12_add_142 : decode cX12_add 142 = .ok (.invokevirtual 326, 3) := by decide +kernel
theorem dX12_add_145 : decode cX12_add 145 = .ok (.aload_n 0, 1) := by decide +kernel
theorem dX12_add_146 : decode cX12_add 146 = .ok (.getfield 25, 3) := by decide +kernel
theorem dX12_add_149 : decode cX12_add 149 = .ok (.aload_n 0, 1) := by decide +kernel
theorem dX12_add_150 : decode cX12_add 150 = .ok (.getfield 252, 3) := by decide +kernel
theorem dX12_add_153 : decode cX12_add 153 = .ok (.aload_n 0, 1) := by decide +kernel
theorem dX12_add_154 : decode cX12_add 154 = .ok (.getfield 25, 3) := by decide +kernel
theorem dX12_add_157 : decode cX12_add 157 = .ok (.iload_n 1, 1) := by decide +kernel
theorem dX12_add_158 : decode cX12_add 158 = .ok (.iaload, 1) := by decide +kernel
theorem dX12_add_159 : decode cX12_add 159 = .ok (.aload_n 0, 1) := by decide +kernel
theorem dX12_add_160 : decode cX12_add 160 = .ok (.getfield 25, 3) := by decide +kernel
theorem dX12_add_163 : decode cX12_add 163 = .ok (.iload_n 2, 1) := by decide +kernel
theorem dX12_add_164 : decode cX12_add 164 = .ok (.iaload, 1) := by decide +kernel
theorem dX12_add_165 : decode cX12_add 165 = .ok (.iadd, 1) := by decide +kernel
theorem dX12_add_166 : decode cX12_add 166 = .ok (.iastore, 1) := by decide +kernel
theorem dX12_add_167 : decode cX12_add 167 = .ok (.aload_n 0, 1) := by decide +kernel
theorem dX12_add_168 : decode cX12_add 168 = .ok (.aload_n 0, 1) := by decide +kernel
theorem dX12_add_169 : decode cX12_add 169 = .ok (.getfield 34, 3) := by decide +kernel
theorem dX12_add_172 : decode cX12_add 172 = .ok (.iload_n 1, 1) := by decide +kernel
theorem dX12_add_173 : decode cX12_add 173 = .ok (.iaload, 1) := by decide +kernel
theorem dX12_add_174 : decode cX12_add 174 = .ok (.aload_n 0, 1) := by decide +kernel
theorem dX12_add_175 : decode cX12_add 175 = .ok (.getfield 34, 3) := by decide +kernel
theorem dX12_add_178 : decode cX12_add 178 = .ok (.iload_n 2, 1) := by decide +kernel
theorem dX12_add_179 : decode cX12_add 179 = .ok (.iaload, 1) := by decide +kernel
theorem dX12_add_180 : decode cX12_add 180 = .ok (.iadd, 1) := by decide +kernel
theorem dX12_add_181 : decode cX12_add 181 = .ok (.invokevirtual 323, 3) := by decide +kernel
theorem dX12_add_184 : decode cX12_add 184 = .ok (.aload_n 0, 1) := by decide +kernel
theorem dX12_add_185 : decode cX12_add 185 = .ok (.getfield 252, 3) := by decide +kernel
theorem dX12_add_188 : decode cX12_add 188 = .ok (.iconst 1, 1) := by decide +kernel
theorem dX12_add_189 : decode cX12_add 189 = .ok (.isub, 1) := by decide +kernel
theorem dX12_add_190 : decode cX12_add 190 = .ok (.ireturn, 1) := by decide +kernel
theorem dX12_addAll_0 : decode cX12_addAll 0 = .ok (.iconst 0, 1) := by decide +kernel
theorem dX12_addAll_1 : decode cX12_addAll 1 = .ok (.istore 4, 2) := by decide +kernel
theorem dX12_addAll_3 : decode cX12_addAll 3 = .ok (.iload 4, 2) := by decide +kernel
theorem dX12_addAll_5 : decode cX12_addAll 5 = .ok (.aload_n 0, 1) := by decide +kernel
theorem dX12_addAll_6 : decode cX12_addAll 6 = .ok (.getfield 25, 3) := by decide +kernel
theorem dX12_addAll_9 : decode cX12_addAll 9 = .ok (.iload_n 1, 1) := by decide +kernel
theorem dX12_addAll_10 : decode cX12_addAll 10 = .ok (.iaload, 1) := by decide +kernel
theorem dX12_addAll_11 : decode cX12_addAll 11 = .ok (.if_icmp .ge 38, 3) := by decide +kernel
theorem dX12_addAll_14 : decode cX12_addAll 14 = .ok (.aload_n 0, 1) := by decide +kernel
theorem dX12_addAll_15 : decode cX12_addAll 15 = .ok (.getfield 28, 3) := by decide +kernel
theorem dX12_addAll_18 : decode cX12_addAll 18 = .ok (.bipush 6, 2) := by decide +kernel
theorem dX12_addAll_20 : decode cX12_addAll 20 = .ok (.aload_n 0, 1) := by decide +kernel
theorem dX12_addAll_21 : decode cX12_addAll 21 = .ok (.getfield 252, 3) := by decide +kernel
theorem dX12_addAll_24 : decode cX12_addAll 24 = .ok (.imul, 1) := by decide +kernel
theorem dX12_addAll_25 : decode cX12_addAll 25 = .ok (.iload_n 2, 1) := by decide +kernel
theorem dX12_addAll_26 : decode cX12_addAll 26 = .ok (.iadd, 1) := by decide +kernel
theorem dX12_addAll_27 : decode cX12_addAll 27 = .ok (.iload 4, 2) := by decide +kernel
theorem dX12_addAll_29 : decode cX12_addAll 29 = .ok (.iadd, 1) := by decide +kernel
theorem dX12_addAll_30 : decode cX12_addAll 30 = .ok (.aload_n 0, 1) := by decide +kernel
theorem dX12_addAll_31 : decode cX12_addAll 31 = .ok (.getfield 28, 3) := by decide +kernel
theorem dX12_addAll_34 : decode cX12_addAll 34 = .ok (.bipush 6, 2) := by decide +kernel
theorem dX12_addAll_36 : decode cX12_addAll 36 = .ok (.iload_n 1, 1) := by decide +kernel
theorem dX12_addAll_37 : decode cX12_addAll 37 = .ok (.imul, 1) := by decide +kernel
theorem dX12_addAll_38 : decode cX12_addAll 38 = .ok (.iload 4, 2) := by decide +kernel
theorem dX12_addAll_40 : decode cX12_addAll 40 = .ok (.iadd, 1) := by decide +kernel
theorem dX12_addAll_41 : decode cX12_addAll 41 = .ok (.iaload, 1) := by decide +kernel
theorem dX12_addAll_42 : decode cX12_addAll 42 = .ok (.iastore, 1) := by decide +kernel
theorem dX12_addAll_43 : decode cX12_addAll 43 = .ok (.iinc 4 1, 3) := by decide +kernel
theorem dX12_addAll_46 : decode cX12_addAll 46 = .ok (.goto (-43), 3) := by decide +kernel
theorem dX12_addAll_49 : decode cX12_addAll 49 = .ok (.iconst 0, 1) := by decide +kernel
theorem dX12_addAll_50 : decode cX12_addAll 50 = .ok (.istore 4, 2) := by decide +kernel
theorem dX12_addAll_52 : decode cX12_addAll 52 = .ok (.iload 4, 2) := by decide +kernel
theorem dX12_addAll_54 : decode cX12_addAll 54 = .ok (.aload_n 0, 1) := by decide +kernel
theorem dX12_addAll_55 : decode cX12_addAll 55 = .ok (.getfield 31, 3) := by decide +kernel
theorem dX12_addAll_58 : decode cX12_addAll 58 = .ok (.iload_n 1, 1) := by decide +kernel
theorem dX12_addAll_59 : decode cX12_addAll 59 = .ok (.iaload, 1) := by decide +kernel
theorem dX12_addAll_60 : decode cX12_addAll 60 = .ok (.if_icmp .ge 56, 3) := by decide +kernel
theorem dX12_addAll_63 : decode cX12_addAll 63 = .ok (.bipush 24, 2) := by decide +kernel
theorem dX12_addAll_65 : decode cX12_addAll 65 = .ok (.iload_n 1, 1) := by decide +kernel
theorem dX12_addAll_66 : decode cX12_addAll 66 = .ok (.imul, 1) := by decide +kernel
theorem dX12_addAll_67 : decode cX12_addAll 67 = .ok (.iload 4, 2) := by decide +kernel
theorem dX12_addAll_69 : decode cX12_addAll 69 = .ok (.iadd, 1) := by decide +kernel
theorem dX12_addAll_70 : decode cX12_addAll 70 = .ok (.istore 5, 2) := by decide +kernel
theorem dX12_addAll_72 : decode cX12_addAll 72 = .ok (.aload_n 0, 1) := by decide +kernel
theorem dX12_addAll_73 : decode cX12_addAll 73 = .ok (.aload_n 0, 1) := by decide +kernel
theorem dX12_addAll_74 : decode cX12_addAll 74 = .ok (.getfield 37, 3) := by decide +kernel
theorem dX12_addAll_77 : decode cX12_addAll 77 = .ok (.iload 5, 2) := by decide +kernel
theorem dX12_addAll_79 : decode cX12_addAll 79 = .ok (.iaload, 1) := by decide +kernel
theorem dX12_addAll_80 : decode cX12_addAll 80 = .ok (.iload_n 2, 1) := by decide +kernel
theorem dX12_addAll_81 : decode cX12_addAll 81 = .ok (.aload_n 0, 1) := by decide +kernel
theorem dX12_addAll_82 : decode cX12_addAll 82 = .ok (.getfield 46, 3) := by decide +kernel
theorem dX12_addAll_85 : decode cX12_addAll 85 = .ok (.iload 5, 2) := by decide +kernel
theorem dX12_addAll_87 : decode cX12_addAll 87 = .ok (.iaload, 1) := by decide +kernel
theorem dX12_addAll_88 : decode cX12_addAll 88 = .ok (.iadd, 1) := by decide +kernel
theorem dX12_addAll_89 : decode cX12_addAll 89 = .ok (.iload_n 3, 1) := by decide +kernel
theorem dX12_addAll_90 : decode cX12_addAll 90 = .ok (.aload_n 0, 1) := by decide +kernel
theorem dX12_addAll_91 : decode cX12_addAll 91 = .ok (.getfield 40, 3) := by decide +kernel
theorem dX12_addAll_94 : decode cX12_addAll 94 = .ok (.iload 5, 2) := by decide +kernel
theorem dX12_addAll_96 : decode cX12_addAll 96 = .ok (.iaload, 1) := by decide +kernel
theorem dX12_addAll_97 : decode cX12_addAll 97 = .ok (.iadd, 1) := by decide +kernel
theorem dX12_addAll_98 : decode cX12_addAll 98 = .ok (.iload_n 3, 1) := by decide +kernel
theorem dX12_addAll_99 : decode cX12_addAll 99 = .ok (.aload_n 0, 1) := by decide +kernel
theorem dX12_addAll_100 : decode cX12_addAll 100 = .ok (.getfield 43, 3) := by decide +kernel
theorem dX12_addAll_103 : decode cX12_addAll 103 = .ok (.iload 5, 2) := by decide +kernel
theorem dX12_addAll_105 : decode cX12_addAll 105 = .ok (.iaload, 1) := by decide +kernel
theorem dX12_addAll_106 : decode cX12_addAll 106 = .ok (.iadd, 1) := by decide +kernel
theorem dX12_addAll_107 : decode cX12_addAll 107 = .ok (.invokevirtual 319, 3) := by decide +kernel
theorem dX12_addAll_110 : decode cX12_addAll 110 = .ok (.iinc 4 1, 3) := by decide +kernel
theorem dX12_addAll_113 : decode cX12_addAll 113 = .ok (.goto (-61), 3) := by decide +kernel
theorem dX12_addAll_116 : decode cX12_addAll 116 = .ok (.return_, 1) := by decide +kernel
theorem dX12_leftOf_0 : decode cX12_leftOf 0 = .ok (.iload_n 2, 1) := by decide +kernel
theorem dX12_leftOf_1 : decode cX12_leftOf 1 = .ok (.istore_n 3, 1) := by decide +kernel
theorem dX12_leftOf_2 : decode cX12_leftOf 2 = .ok (.iconst 1, 1) := by decide +kernel
theorem dX12_leftOf_3 : decode cX12_leftOf 3 = .ok (.istore 4, 2) := by decide +kernel
theorem dX12_leftOf_5 : decode cX12_leftOf 5 = .ok (.iload 4, 2) := by decide +kernel
theorem dX12_leftOf_7 : decode cX12_leftOf 7 = .ok (.ifCond .eq 119, 3) := by decide +kernel
theorem dX12_leftOf_10 : decode cX12_leftOf 10 = .ok (.iconst 0, 1) := by decide +kernel
theorem dX12_leftOf_11 : decode cX12_leftOf 11 = .ok (.istore 4, 2) := by decide +kernel
theorem dX12_leftOf_13 : decode cX12_leftOf 13 = .ok (.iconst 0, 1) := by decide +kernel
theorem dX12_leftOf_14 : decode cX12_leftOf 14 = .ok (.istore 5, 2) := by decide +kernel
theorem dX12_leftOf_16 : decode cX12_leftOf 16 = .ok (.iload 5, 2) := by decide +kernel
theorem dX12_leftOf_18 : decode cX12_leftOf 18 = .ok (.aload_n 0, 1) := by decide +kernel
theorem dX12_leftOf_19 : decode cX12_leftOf 19 = .ok (.getfield 31, 3) := by decide +kernel
theorem dX12_leftOf_22 : decode cX12_leftOf 22 = .ok (.iload_n 1, 1) := by decide +kernel
theorem dX12_leftOf_23 : decode cX12_leftOf 23 = .ok (.iaload, 1) := by decide +kernel
theorem dX12_leftOf_24 : decode cX12_leftOf 24 = .ok (.if_icmp .ge 99, 3) := by decide +kernel
theorem dX12_leftOf_27 : decode cX12_leftOf 27 = .ok (.aload_n 0, 1) := by decide +kernel
theorem dX12_leftOf_28 : decode cX12_leftOf 28 = .ok (.iload_n 1, 1) := by decide +kernel
theorem dX12_leftOf_29 : decode cX12_leftOf 29 = .ok (.iload 5, 2) := by decide +kernel
theorem dX12_leftOf_31 : decode cX12_leftOf 31 = .ok (.invokevirtual 294, 3) := by decide +kernel
theorem dX12_leftOf_34 : decode cX12_leftOf 34 = .ok (.ifCond .ne 6, 3) := by decide +kernel
theorem dX12_leftOf_37 : decode cX12_leftOf 37 = .ok (.goto 80, 3) := by decide +kernel
theorem dX12_leftOf_40 : decode cX12_leftOf 40 = .ok (.iload_n 3, 1) := by decide +kernel
theorem dX12_leftOf_41 : decode cX12_leftOf 41 = .ok (.iload 5, 2) := by decide +kernel
theorem dX12_leftOf_43 : decode cX12_leftOf 43 = .ok (.ishr, 1) := by decide +kernel
theorem dX12_leftOf_44 : decode cX12_leftOf 44 = .ok (.iconst 1, 1) := by decide +kernel
theorem dX12_leftOf_45 : decode cX12_leftOf 45 = .ok (.iand, 1) := by decide +kernel
theorem dX12_leftOf_46 : decode cX12_leftOf 46 = .ok (.iconst 1, 1) := by decide +kernel
theorem dX12_leftOf_47 : decode cX12_leftOf 47 = .ok (.if_icmp .ne 7, 3) := by decide +kernel
theorem dX12_leftOf_50 : decode cX12_leftOf 50 = .ok (.iconst 1, 1) := by decide +kernel
theorem dX12_leftOf_51 : decode cX12_leftOf 51 = .ok (.goto 4, 3) := by decide +kernel
theorem dX12_leftOf_54 : decode cX12_leftOf 54 = .ok (.iconst 0, 1) := by decide +kernel
theorem dX12_leftOf_55 : decode cX12_leftOf 55 = .ok (.istore 6, 2) := by decide +kernel
theorem dX12_leftOf_57 : decode cX12_leftOf 57 = .ok (.iload_n 3, 1) := by decide +kernel
theorem dX12_leftOf_58 : decode cX12_leftOf 58 = .ok (.iload 5, 2) := by decide +kernel
theorem dX12_leftOf_60 : decode cX12_leftOf 60 = .ok (.iconst 1, 1) := by decide +kernel
theorem dX12_leftOf_61 : decode cX12_leftOf 61 = .ok (.iadd, 1) := by decide +kernel
theorem dX12_leftOf_62 : decode cX12_leftOf 62 = .ok (.ishr, 1) := by decide +kernel
theorem dX12_leftOf_63 : decode cX12_leftOf 63 = .ok (.iconst 1, 1) := by decide +kernel
theorem dX12_leftOf_64 : decode cX12_leftOf 64 = .ok (.iand, 1) := by decide +kernel
theorem dX12_leftOf_65 : decode cX12_leftOf 65 = .ok (.iconst 1, 1) := by decide +kernel
theorem dX12_leftOf_66 : decode cX12_leftOf 66 = .ok (.if_icmp .ne 7, 3) := by decide +kernel
theorem dX12_leftOf_69 : decode cX12_leftOf 69 = .ok (.iconst 1, 1) := by decide +kernel
theorem dX12_leftOf_70 : decode cX12_leftOf 70 = .ok (.goto 4, 3) := by decide +kernel
theorem dX12_leftOf_73 : decode cX12_leftOf 73 = .ok (.iconst 0, 1) := by decide +kernel
theorem dX12_leftOf_74 : decode cX12_leftOf 74 = .ok (.istore 7, 2) := by decide +kernel
theorem dX12_leftOf_76 : decode cX12_leftOf 76 = .ok (.iload 6, 2) := by decide +kernel
theorem dX12_leftOf_78 : decode cX12_leftOf 78 = .ok (.iload 7, 2) := by decide +kernel
theorem dX12_leftOf_80 : decode cX12_leftOf 80 = .ok (.if_icmp .eq 37, 3) := by decide +kernel
theorem dX12_leftOf_83 : decode cX12_leftOf 83 = .ok (.aload_n 0, 1) := by decide +kernel
theorem dX12_leftOf_84 : decode cX12_leftOf 84 = .ok (.iload_n 1, 1) := by decide +kernel
theorem dX12_leftOf_85 : decode cX12_leftOf 85 = .ok (.aload_n 0, 1) := by decide +kernel
theorem dX12_leftOf_86 : decode cX12_leftOf 86 = .ok (.getfield 43, 3) := by decide +kernel
theorem dX12_leftOf_89 : decode cX12_leftOf 89 = .ok (.bipush 24, 2) := by decide +kernel
theorem dX12_leftOf_91 : decode cX12_leftOf 91 = .ok (.iload_n 1, 1) := by decide +kernel
theorem dX12_leftOf_92 : decode cX12_leftOf 92 = .ok (.imul, 1) := by decide +kernel
theorem dX12_leftOf_93 : decode cX12_leftOf 93 = .ok (.iload 5, 2) := by decide +kernel
theorem dX12_leftOf_95 : decode cX12_leftOf 95 = .ok (.iadd, 1) := by decide +kernel
theorem dX12_leftOf_96 : decode cX12_leftOf 96 = .ok (.iaload, 1) := by decide +kernel
theorem dX12_leftOf_97 : decode cX12_leftOf 97 = .ok (.iload_n 3, 1) := by decide +kernel
theorem dX12_leftOf_98 : decode cX12_leftOf 98 = .ok (.invokevirtual 290, 3) := by decide +kernel
theorem dX12_leftOf_101 : decode cX12_leftOf 101 = .ok (.iconst 3, 1) := by decide +kernel
theorem dX12_leftOf_102 : decode cX12_leftOf 102 = .ok (.if_icmp .ge 15, 3) := by decide +kernel
theorem dX12_leftOf_105 : decode cX12_leftOf 105 = .ok (.iload_n 3, 1) := by decide +kernel
theorem dX12_leftOf_106 : decode cX12_leftOf 106 = .ok (.iconst 3, 1) := by decide +kernel
theorem dX12_leftOf_107 : decode cX12_leftOf 107 = .ok (.iload 5, 2) := by decide +kernel
theorem dX12_leftOf_109 : decode cX12_leftOf 109 = .ok (.ishl, 1) := by decide +kernel
theorem dX12_leftOf_110 : decode cX12_leftOf 110 = .ok (.iconst (-1), 1) := by decide +kernel
theorem dX12_leftOf_111 : decode cX12_leftOf 111 = .ok (.ixor, 1) := by decide +kernel
theorem dX12_leftOf_112 : decode cX12_leftOf 112 = .ok (.iand, 1) := by decide +kernel
theorem dX12_leftOf_113 : decode cX12_leftOf 113 = .ok (.istore_n 3, 1) := by decide +kernel
theorem dX12_leftOf_114 : decode cX12_leftOf 114 = .ok (.iconst 1, 1) := by decide +kernel
theorem dX12_leftOf_115 : decode cX12_leftOf 115 = .ok (.istore 4, 2) := by decide +kernel
theorem dX12_leftOf_117 : decode cX12_leftOf 117 = .ok (.iinc 5 1, 3) := by decide +kernel
theorem dX12_leftOf_120 : decode cX12_leftOf 120 = .ok (.goto (-104), 3) := by decide +kernel
theorem dX12_leftOf_123 : decode cX12_leftOf 123 = .ok (.goto (-118), 3) := by decide +kernel
theorem dX12_leftOf_126 : decode cX12_leftOf 126 = .ok (.iload_n 3, 1) := by decide +kernel
theorem dX12_leftOf_127 : decode cX12_leftOf 127 = .ok (.ireturn, 1) := by decide +kernel
theorem dX12_partsOf_0 : decode cX12_partsOf 0 = .ok (.iload_n 2, 1) := by decide +kernel
theorem dX12_partsOf_1 : decode cX12_partsOf 1 = .ok (.istore_n 3, 1) := by decide +kernel
theorem dX12_partsOf_2 : decode cX12_partsOf 2 = .ok (.iconst 0, 1) := by decide +kernel
theorem dX12_partsOf_3 : decode cX12_partsOf 3 = .ok (.istore 4, 2) := by decide +kernel
theorem dX12_partsOf_5 : decode cX12_partsOf 5 = .ok (.iload_n 3, 1) := by decide +kernel
theorem dX12_partsOf_6 : decode cX12_partsOf 6 = .ok (.ifCond .eq 94, 3) := by decide +kernel
theorem dX12_partsOf_9 : decode cX12_partsOf 9 = .ok (.iload_n 3, 1) := by decide +kernel
theorem dX12_partsOf_10 : decode cX12_partsOf 10 = .ok (.iload_n 3, 1) := by decide +kernel
theorem dX12_partsOf_11 : decode cX12_partsOf 11 = .ok (.ineg, 1) := by decide +kernel
theorem dX12_partsOf_12 : decode cX12_partsOf 12 = .ok (.iand, 1) := by decide +kernel
theorem dX12_partsOf_13 : decode cX12_partsOf 13 = .ok (.istore 5, 2) := by decide +kernel
theorem dX12_partsOf_15 : decode cX12_partsOf 15 = .ok (.iconst 0, 1) := by decide +kernel
theorem dX12_partsOf_16 : decode cX12_partsOf 16 = .ok (.istore 6, 2) := by decide +kernel
theorem dX12_partsOf_18 : decode cX12_partsOf 18 = .ok (.iload 6, 2) := by decide +kernel
theorem dX12_partsOf_20 : decode cX12_partsOf 20 = .ok (.iload 5, 2) := by decide +kernel
theorem dX12_partsOf_22 : decode cX12_partsOf 22 = .ok (.if_icmp .eq 65, 3) := by decide +kernel
theorem dX12_partsOf_25 : decode cX12_partsOf 25 = .ok (.iload 5, 2) := by decide +kernel
theorem dX12_partsOf_27 : decode cX12_partsOf 27 = .ok (.istore 6, 2) := by decide +kernel
theorem dX12_partsOf_29 : decode cX12_partsOf 29 = .ok (.iconst 0, 1) := by decide +kernel
theorem dX12_partsOf_30 : decode cX12_partsOf 30 = .ok (.istore 7, 2) := by decide +kernel
theorem dX12_partsOf_32 : decode cX12_partsOf 32 = .ok (.iload 7, 2) := by decide +kernel
theorem dX12_partsOf_34 : decode cX12_partsOf 34 = .ok (.aload_n 0, 1) := by decide +kernel
theorem dX12_partsOf_35 : decode cX12_partsOf 35 = .ok (.getfield 31, 3) := by decide +kernel
theorem dX12_partsOf_38 : decode cX12_partsOf 38 = .ok (.iload_n 1, 1) := by decide +kernel
theorem dX12_partsOf_39 : decode cX12_partsOf 39 = .ok (.iaload, 1) := by decide +kernel
theorem dX12_partsOf_40 : decode cX12_partsOf 40 = .ok (.if_icmp .ge 44, 3) := by decide +kernel
theorem dX12_partsOf_43 : decode cX12_partsOf 43 = .ok (.iload 5, 2) := by decide +kernel
theorem dX12_partsOf_45 : decode cX12_partsOf 45 = .ok (.iload_n 3, 1) := by decide +kernel
theorem dX12_partsOf_46 : decode cX12_partsOf 46 = .ok (.iload 7, 2) := by decide +kernel
theorem dX12_partsOf_48 : decode cX12_partsOf 48 = .ok (.ishr, 1) := by decide +kernel
theorem dX12_partsOf_49 : decode cX12_partsOf 49 = .ok (.iconst 1, 1) := by decide +kernel
theorem dX12_partsOf_50 : decode cX12_partsOf 50 = .ok (.iand, 1) := by decide +kernel
theorem dX12_partsOf_51 : decode cX12_partsOf 51 = .ok (.iconst 1, 1) := by decide +kernel
theorem dX12_partsOf_52 : decode cX12_partsOf 52 = .ok (.if_icmp .ne 22, 3) := by decide +kernel
theorem dX12_partsOf_55 : decode cX12_partsOf 55 = .ok (.aload_n 0, 1) := by decide +kernel
theorem dX12_partsOf_56 : decode cX12_partsOf 56 = .ok (.iload_n 1, 1) := by decide +kernel
theorem dX12_partsOf_57 : decode cX12_partsOf 57 = .ok (.iload 7, 2) := by decide +kernel
theorem dX12_partsOf_59 : decode cX12_partsOf 59 = .ok (.iload 5, 2) := by decide +kernel
theorem dX12_partsOf_61 : decode cX12_partsOf 61 = .ok (.invokevirtual 330, 3) := by decide +kernel
theorem dX12_partsOf_64 : decode cX12_partsOf 64 = .ok (.ifCond .eq 10, 3) := by decide +kernel
theorem dX12_partsOf_67 : decode cX12_partsOf 67 = .ok (.iconst 1, 1) := by decide +kernel
theorem dX12_partsOf_68 : decode cX12_partsOf 68 = .ok (.iload 7, 2) := by decide +kernel
theorem dX12_partsOf_70 : decode cX12_partsOf 70 = .ok (.ishl, 1) := by decide +kernel
theorem dX12_partsOf_71 : decode cX12_partsOf 71 = .ok (.goto 4, 3) := by decide +kernel
theorem dX12_partsOf_74 : decode cX12_partsOf 74 = .ok (.iconst 0, 1) := by decide +kernel
theorem dX12_partsOf_75 : decode cX12_partsOf 75 = .ok (.ior, 1) := by decide +kernel
theorem dX12_partsOf_76 : decode cX12_partsOf 76 = .ok (.istore 5, 2) := by decide +kernel
theorem dX12_partsOf_78 : decode cX12_partsOf 78 = .ok (.iinc 7 1, 3) := by decide +kernel
theorem dX12_partsOf_81 : decode cX12_partsOf 81 = .ok (.goto (-49), 3) := by decide +kernel
theorem dX12_partsOf_84 : decode cX12_partsOf 84 = .ok (.goto (-66), 3) := by decide +kernel
theorem dX12_partsOf_87 : decode cX12_partsOf 87 = .ok (.iload_n 3, 1) := by decide +kernel
theorem dX12_partsOf_88 : decode cX12_partsOf 88 = .ok (.iload 5, 2) := by decide +kernel
theorem dX12_partsOf_90 : decode cX12_partsOf 90 = .ok (.iconst (-1), 1) := by decide +kernel
theorem dX12_partsOf_91 : decode cX12_partsOf 91 = .ok (.ixor, 1) := by decide +kernel
theorem dX12_partsOf_92 : decode cX12_partsOf 92 = .ok (.iand, 1) := by decide +kernel
theorem dX12_partsOf_93 : decode cX12_partsOf 93 = .ok (.istore_n 3, 1) := by decide +kernel
theorem dX12_partsOf_94 : decode cX12_partsOf 94 = .ok (.iinc 4 1, 3) := by decide +kernel
theorem dX12_partsOf_97 : decode cX12_partsOf 97 = .ok (.goto (-92), 3) := by decide +kernel
theorem dX12_partsOf_100 : decode cX12_partsOf 100 = .ok (.iload 4, 2) := by decide +kernel
theorem dX12_partsOf_102 : decode cX12_partsOf 102 = .ok (.ireturn, 1) := by decide +kernel
theorem dX12_meets_0 : decode cX12_meets 0 = .ok (.iconst 0, 1) := by decide +kernel
theorem dX12_meets_1 : decode cX12_meets 1 = .ok (.istore 4, 2) := by decide +kernel
theorem dX12_meets_3 : decode cX12_meets 3 = .ok (.iload 4, 2) := by decide +kernel
theorem dX12_meets_5 : decode cX12_meets 5 = .ok (.aload_n 0, 1) := by decide +kernel
theorem dX12_meets_6 : decode cX12_meets 6 = .ok (.getfield 31, 3) := by decide +kernel
theorem dX12_meets_9 : decode cX12_meets 9 = .ok (.iload_n 1, 1) := by decide +kernel
theorem dX12_meets_10 : decode cX12_meets 10 = .ok (.iaload, 1) := by decide +kernel
theorem dX12_meets_11 : decode cX12_meets 11 = .ok (.if_icmp .ge 106, 3) := by decide +kernel
theorem dX12_meets_14 : decode cX12_meets 14 = .ok (.iload_n 3, 1) := by decide +kernel
theorem dX12_meets_15 : decode cX12_meets 15 = .ok (.iload 4, 2) := by decide +kernel
theorem dX12_meets_17 : decode cX12_meets 17 = .ok (.ishr, 1) := by decide +kernel
theorem dX12_meets_18 : decode cX12_meets 18 = .ok (.iconst 1, 1) := by decide +kernel
theorem dX12_meets_19 : decode cX12_meets 19 = .ok (.iand, 1) := by decide +kernel
theorem dX12_meets_20 : decode cX12_meets 20 = .ok (.iconst 1, 1) := by decide +kernel
theorem dX12_meets_21 : decode cX12_meets 21 = .ok (.if_icmp .ne 90, 3) := by decide +kernel
theorem dX12_meets_24 : decode cX12_meets 24 = .ok (.bipush 24, 2) := by decide +kernel
theorem dX12_meets_26 : decode cX12_meets 26 = .ok (.iload_n 1, 1) := by decide +kernel
theorem dX12_meets_27 : decode cX12_meets 27 = .ok (.imul, 1) := by decide +kernel
theorem dX12_meets_28 : decode cX12_meets 28 = .ok (.iload 4, 2) := by decide +kernel
theorem dX12_meets_30 : decode cX12_meets 30 = .ok (.iadd, 1) := by decide +kernel
theorem dX12_meets_31 : decode cX12_meets 31 = .ok (.istore 5, 2) := by decide +kernel
theorem dX12_meets_33 : decode cX12_meets 33 = .ok (.bipush 24, 2) := by decide +kernel
theorem dX12_meets_35 : decode cX12_meets 35 = .ok (.iload_n 1, 1) := by decide +kernel
theorem dX12_meets_36 : decode cX12_meets 36 = .ok (.imul, 1) := by decide +kernel
theorem dX12_meets_37 : decode cX12_meets 37 = .ok (.iload_n 2, 1) := by decide +kernel
theorem dX12_meets_38 : decode cX12_meets 38 = .ok (.iadd, 1) := by decide +kernel
theorem dX12_meets_39 : decode cX12_meets 39 = .ok (.istore 6, 2) := by decide +kernel
theorem dX12_meets_41 : decode cX12_meets 41 = .ok (.aload_n 0, 1) := by decide +kernel
theorem dX12_meets_42 : decode cX12_meets 42 = .ok (.getfield 40, 3) := by decide +kernel
theorem dX12_meets_45 : decode cX12_meets 45 = .ok (.iload 5, 2) := by decide +kernel
theorem dX12_meets_47 : decode cX12_meets 47 = .ok (.iaload, 1) := by decide +kernel
theorem dX12_meets_48 : decode cX12_meets 48 = .ok (.aload_n 0, 1) := by decide +kernel
theorem dX12_meets_49 : decode cX12_meets 49 = .ok (.getfield 40, 3) := by decide +kernel
theorem dX12_meets_52 : decode cX12_meets 52 = .ok (.iload 6, 2) := by decide +kernel
theorem dX12_meets_54 : decode cX12_meets 54 = .ok (.iaload, 1) := by decide +kernel
theorem dX12_meets_55 : decode cX12_meets 55 = .ok (.if_icmp .eq 54, 3) := by decide +kernel
theorem dX12_meets_58 : decode cX12_meets 58 = .ok (.aload_n 0, 1) := by decide +kernel
theorem dX12_meets_59 : decode cX12_meets 59 = .ok (.getfield 40, 3) := by decide +kernel
theorem dX12_meets_62 : decode cX12_meets 62 = .ok (.iload 5, 2) := by decide +kernel
theorem dX12_meets_64 : decode cX12_meets 64 = .ok (.iaload, 1) := by decide +kernel
theorem dX12_meets_65 : decode cX12_meets 65 = .ok (.aload_n 0, 1) := by decide +kernel
theorem dX12_meets_66 : decode cX12_meets 66 = .ok (.getfield 43, 3) := by decide +kernel
theorem dX12_meets_69 : decode cX12_meets 69 = .ok (.iload 6, 2) := by decide +kernel
theorem dX12_meets_71 : decode cX12_meets 71 = .ok (.iaload, 1) := by decide +kernel
theorem dX12_meets_72 : decode cX12_meets 72 = .ok (.if_icmp .eq 37, 3) := by decide +kernel
theorem dX12_meets_75 : decode cX12_meets 75 = .ok (.aload_n 0, 1) := by decide +kernel
theorem dX12_meets_76 : decode cX12_meets 76 = .ok (.getfield 43, 3) := by decide +kernel
theorem dX12_meets_79 : decode cX12_meets 79 = .ok (.iload 5, 2) := by decide +kernel
theorem dX12_meets_81 : decode cX12_meets 81 = .ok (.iaload, 1) := by decide +kernel
theorem dX12_meets_82 : decode cX12_meets 82 = .ok (.aload_n 0, 1) := by decide +kernel
theorem dX12_meets_83 : decode cX12_meets 83 = .ok (.getfield 40, 3) := by decide +kernel
theorem dX12_meets_86 : decode cX12_meets 86 = .ok (.iload 6, 2) := by decide +kernel
theorem dX12_meets_88 : decode cX12_meets 88 = .ok (.iaload, 1) := by decide +kernel
theorem dX12_meets_89 : decode cX12_meets 89 = .ok (.if_icmp .eq 20, 3) := by decide +kernel
theorem dX12_meets_92 : decode cX12_meets 92 = .ok (.aload_n 0, 1) := by decide +kernel
theorem dX12_meets_93 : decode cX12_meets 93 = .ok (.getfield 43, 3) := by decide +kernel
theorem dX12_meets_96 : decode cX12_meets 96 = .ok (.iload 5, 2) := by decide +kernel
theorem dX12_meets_98 : decode cX12_meets 98 = .ok (.iaload, 1) := by decide +kernel
theorem dX12_meets_99 : decode cX12_meets 99 = .ok (.aload_n 0, 1) := by decide +kernel
theorem dX12_meets_100 : decode cX12_meets 100 = .ok (.getfield 43, 3) := by decide +kernel
theorem dX12_meets_103 : decode cX12_meets 103 = .ok (.iload 6, 2) := by decide +kernel
theorem dX12_meets_105 : decode cX12_meets 105 = .ok (.iaload, 1) := by decide +kernel
theorem dX12_meets_106 : decode cX12_meets 106 = .ok (.if_icmp .ne 5, 3) := by decide +kernel
theorem dX12_meets_109 : decode cX12_meets 109 = .ok (.iconst 1, 1) := by decide +kernel
theorem dX12_meets_110 : decode cX12_meets 110 = .ok (.ireturn, 1) := by decide +kernel
theorem dX12_meets_111 : decode cX12_meets 111 = .ok (.iinc 4 1, 3) := by decide +kernel
theorem dX12_meets_114 : decode cX12_meets 114 = .ok (.goto (-111), 3) := by decide +kernel
theorem dX12_meets_117 : decode cX12_meets 117 = .ok (.iconst 0, 1) := by decide +kernel
theorem dX12_meets_118 : decode cX12_meets 118 = .ok (.ireturn, 1) := by decide +kernel
theorem dX12_pop_0 : decode cX12_pop 0 = .ok (.aload_n 0, 1) := by decide +kernel
theorem dX12_pop_1 : decode cX12_pop 1 = .ok (.iload_n 1, 1) := by decide +kernel
theorem dX12_pop_2 : decode cX12_pop 2 = .ok (.iload_n 2, 1) := by decide +kernel
theorem dX12_pop_3 : decode cX12_pop 3 = .ok (.invokevirtual 304, 3) := by decide +kernel
theorem dX12_pop_6 : decode cX12_pop 6 = .ok (.ifCond .eq 12, 3) := by decide +kernel
theorem dX12_pop_9 : decode cX12_pop 9 = .ok (.iload_n 3, 1) := by decide +kernel
theorem dX12_pop_10 : decode cX12_pop 10 = .ok (.iconst 0, 1) := by decide +kernel
theorem dX12_pop_11 : decode cX12_pop 11 = .ok (.iconst 2, 1) := by decide +kernel
theorem dX12_pop_12 : decode cX12_pop 12 = .ok (.invokestatic 121, 3) := by decide +kernel
theorem dX12_pop_15 : decode cX12_pop 15 = .ok (.ifCond .ne 5, 3) := by decide +kernel
theorem dX12_pop_18 : decode cX12_pop 18 = .ok (.iconst (-1), 1) := by decide +kernel
theorem dX12_pop_19 : decode cX12_pop 19 = .ok (.ireturn, 1) := by decide +kernel
theorem dX12_pop_20 : decode cX12_pop 20 = .ok (.aload_n 0, 1) := by decide +kernel
theorem dX12_pop_21 : decode cX12_pop 21 = .ok (.iload_n 1, 1) := by decide +kernel
theorem dX12_pop_22 : decode cX12_pop 22 = .ok (.aload_n 0, 1) := by decide +kernel
theorem dX12_pop_23 : decode cX12_pop 23 = .ok (.iload_n 1, 1) := by decide +kernel
theorem dX12_pop_24 : decode cX12_pop 24 = .ok (.invokevirtual 287, 3) := by decide +kernel
theorem dX12_pop_27 : decode cX12_pop 27 = .ok (.iconst 1, 1) := by decide +kernel
theorem dX12_pop_28 : decode cX12_pop 28 = .ok (.iload_n 2, 1) := by decide +kernel
theorem dX12_pop_29 : decode cX12_pop 29 = .ok (.ishl, 1) := by decide +kernel
theorem dX12_pop_30 : decode cX12_pop 30 = .ok (.iconst (-1), 1) := by decide +kernel
theorem dX12_pop_31 : decode cX12_pop 31 = .ok (.ixor, 1) := by decide +kernel
theorem dX12_pop_32 : decode cX12_pop 32 = .ok (.iand, 1) := by decide +kernel
theorem dX12_pop_33 : decode cX12_pop 33 = .ok (.invokevirtual 333, 3) := by decide +kernel
theorem dX12_pop_36 : decode cX12_pop 36 = .ok (.istore 4, 2) := by decide +kernel
theorem dX12_pop_38 : decode cX12_pop 38 = .ok (.aload_n 0, 1) := by decide +kernel
theorem dX12_pop_39 : decode cX12_pop 39 = .ok (.iload_n 1, 1) := by decide +kernel
theorem dX12_pop_40 : decode cX12_pop 40 = .ok (.invokevirtual 287, 3) := by decide +kernel
theorem dX12_pop_43 : decode cX12_pop 43 = .ok (.iload 4, 2) := by decide +kernel
theorem dX12_pop_45 : decode cX12_pop 45 = .ok (.iconst (-1), 1) := by decide +kernel
theorem dX12_pop_46 : decode cX12_pop 46 = .ok (.ixor, 1) := by decide +kernel
theorem dX12_pop_47 : decode cX12_pop 47 = .ok (.iand, 1) := by decide +kernel
theorem dX12_pop_48 : decode cX12_pop 48 = .ok (.istore 5, 2) := by decide +kernel
theorem dX12_pop_50 : decode cX12_pop 50 = .ok (.iload_n 3, 1) := by decide +kernel
theorem dX12_pop_51 : decode cX12_pop 51 = .ok (.ifCond .ne 8, 3) := by decide +kernel
theorem dX12_pop_54 : decode cX12_pop 54 = .ok (.iload 5, 2) := by decide +kernel
theorem dX12_pop_56 : decode cX12_pop 56 = .ok (.goto 23, 3) := by decide +kernel
theorem dX12_pop_59 : decode cX12_pop 59 = .ok (.iload_n 3, 1) := by decide +kernel
theorem dX12_pop_60 : decode cX12_pop 60 = .ok (.iconst 1, 1) := by decide +kernel
theorem dX12_pop_61 : decode cX12_pop 61 = .ok (.if_icmp .ne 11, 3) := by decide +kernel
theorem dX12_pop_64 : decode cX12_pop 64 = .ok (.iload 5, 2) := by decide +kernel
theorem dX12_pop_66 : decode cX12_pop 66 = .ok (.invokestatic 336, 3) := by decide +kernel
theorem dX12_pop_69 : decode cX12_pop 69 = .ok (.goto 10, 3) := by decide +kernel
theorem dX12_pop_72 : decode cX12_pop 72 = .ok (.aload_n 0, 1) := by decide +kernel
theorem dX12_pop_73 : decode cX12_pop 73 = .ok (.iload_n 1, 1) := by decide +kernel
theorem dX12_pop_74 : decode cX12_pop 74 = .ok (.iload 4, 2) := by decide +kernel
theorem dX12_pop_76 : decode cX12_pop 76 = .ok (.invokevirtual 341, 3) := by decide +kernel
theorem dX12_pop_79 : decode cX12_pop 79 = .ok (.ireturn, 1) := by decide +kernel
theorem dX12_weakest_0 : decode cX12_weakest 0 = .ok (.aload_n 0, 1) := by decide +kernel
theorem dX12_weakest_1 : decode cX12_weakest 1 = .ok (.iload_n 1, 1) := by decide +kernel
theorem dX12_weakest_2 : decode cX12_weakest 2 = .ok (.invokevirtual 284, 3) := by decide +kernel
theorem dX12_weakest_5 : decode cX12_weakest 5 = .ok (.ifCond .ne 5, 3) := by decide +kernel
theorem dX12_weakest_8 : decode cX12_weakest 8 = .ok (.iconst (-1), 1) := by decide +kernel
theorem dX12_weakest_9 : decode cX12_weakest 9 = .ok (.ireturn, 1) := by decide +kernel
theorem dX12_weakest_10 : decode cX12_weakest 10 = .ok (.iconst (-1), 1) := by decide +kernel
theorem dX12_weakest_11 : decode cX12_weakest 11 = .ok (.istore_n 2, 1) := by decide +kernel
theorem dX12_weakest_12 : decode cX12_weakest 12 = .ok (.iconst 0, 1) := by decide +kernel
theorem dX12_weakest_13 : decode cX12_weakest 13 = .ok (.istore_n 3, 1) := by decide +kernel
theorem dX12_weakest_14 : decode cX12_weakest 14 = .ok (.iload_n 3, 1) := by decide +kernel
theorem dX12_weakest_15 : decode cX12_weakest 15 = .ok (.aload_n 0, 1) := by decide +kernel
theorem dX12_weakest_16 : decode cX12_weakest 16 = .ok (.getfield 31, 3) := by decide +kernel
theorem dX12_weakest_19 : decode cX12_weakest 19 = .ok (.iload_n 1, 1) := by decide +kernel
theorem dX12_weakest_20 : decode cX12_weakest 20 = .ok (.iaload, 1) := by decide +kernel
theorem dX12_weakest_21 : decode cX12_weakest 21 = .ok (.if_icmp .ge 37, 3) := by decide +kernel
theorem dX12_weakest_24 : decode cX12_weakest 24 = .ok (.iload_n 2, 1) := by decide +kernel
theorem dX12_weakest_25 : decode cX12_weakest 25 = .ok (.iconst (-1), 1) := by decide +kernel
theorem dX12_weakest_26 : decode cX12_weakest 26 = .ok (.if_icmp .eq 20, 3) := by decide +kernel
theorem dX12_weakest_29 : decode cX12_weakest 29 = .ok (.aload_n 0, 1) := by decide +kernel
theorem dX12_weakest_30 : decode cX12_weakest 30 = .ok (.iload_n 1, 1) := by decide +kernel
theorem dX12_weakest_31 : decode cX12_weakest 31 = .ok (.iload_n 3, 1) := by decide +kernel
theorem dX12_weakest_32 : decode cX12_weakest 32 = .ok (.iconst 1, 1) := by decide +kernel
theorem dX12_weakest_33 : decode cX12_weakest 33 = .ok (.invokevirtual 344, 3) := by decide +kernel
theorem dX12_weakest_36 : decode cX12_weakest 36 = .ok (.aload_n 0, 1) := by decide +kernel
theorem dX12_weakest_37 : decode cX12_weakest 37 = .ok (.iload_n 1, 1) := by decide +kernel
theorem dX12_weakest_38 : decode cX12_weakest 38 = .ok (.iload_n 2, 1) := by decide +kernel
theorem dX12_weakest_39 : decode cX12_weakest 39 = .ok (.iconst 1, 1) := by decide +kernel
theorem dX12_weakest_40 : decode cX12_weakest 40 = .ok (.invokevirtual 344, 3) := by decide +kernel
theorem dX12_weakest_43 : decode cX12_weakest 43 = .ok (.if_icmp .le 7, 3) := by decide +kernel
theorem dX12_weakest_46 : decode cX12_weakest 46 = .ok (.iload_n 3, 1) := by decide +kernel
theorem dX12_weakest_47 : decode cX12_weakest 47 = .ok (.goto 4, 3) := by decide +kernel
theorem dX12_weakest_50 : decode cX12_weakest 50 = .ok (.iload_n 2, 1) := by decide +kernel
theorem dX12_weakest_51 : decode cX12_weakest 51 = .ok (.istore_n 2, 1) := by decide +kernel
theorem dX12_weakest_52 : decode cX12_weakest 52 = .ok (.iinc 3 1, 3) := by decide +kernel
theorem dX12_weakest_55 : decode cX12_weakest 55 = .ok (.goto (-41), 3) := by decide +kernel
theorem dX12_weakest_58 : decode cX12_weakest 58 = .ok (.iload_n 2, 1) := by decide +kernel
theorem dX12_weakest_59 : decode cX12_weakest 59 = .ok (.ireturn, 1) := by decide +kernel
theorem dX12_between_0 : decode cX12_between 0 = .ok (.iconst 0, 1) := by decide +kernel
theorem dX12_between_1 : decode cX12_between 1 = .ok (.istore 5, 2) := by decide +kernel
theorem dX12_between_3 : decode cX12_between 3 = .ok (.bipush 24, 2) := by decide +kernel
theorem dX12_between_5 : decode cX12_between 5 = .ok (.iload_n 1, 1) := by decide +kernel
theorem dX12_between_6 : decode cX12_between 6 = .ok (.imul, 1) := by decide +kernel
theorem dX12_between_7 : decode cX12_between 7 = .ok (.istore 6, 2) := by decide +kernel
theorem dX12_between_9 : decode cX12_between 9 = .ok (.iload 6, 2) := by decide +kernel
theorem dX12_between_11 : decode cX12_between 11 = .ok (.bipush 24, 2) := by decide +kernel
theorem dX12_between_13 : decode cX12_between 13 = .ok (.iload_n 1, 1) := by decide +kernel
theorem dX12_between_14 : decode cX12_between 14 = .ok (.imul, 1) := by decide +kernel
theorem dX12_between_15 : decode cX12_between 15 = .ok (.aload_n 0, 1) := by decide +kernel
theorem dX12_between_16 : decode cX12_between 16 = .ok (.getfield 31, 3) := by decide +kernel
theorem dX12_between_19 : decode cX12_between 19 = .ok (.iload_n 1, 1) := by decide +kernel
theorem dX12_between_20 : decode cX12_between 20 = .ok (.iaload, 1) := by decide +kernel
theorem dX12_between_21 : decode cX12_between 21 = .ok (.iadd, 1) := by decide +kernel
theorem dX12_between_22 : decode cX12_between 22 = .ok (.if_icmp .ge 87, 3) := by decide +kernel
theorem dX12_between_25 : decode cX12_between 25 = .ok (.aload_n 0, 1) := by decide +kernel
theorem dX12_between_26 : decode cX12_between 26 = .ok (.getfield 40, 3) := by decide +kernel
theorem dX12_between_29 : decode cX12_between 29 = .ok (.iload 6, 2) := by decide +kernel
theorem dX12_between_31 : decode cX12_between 31 = .ok (.iaload, 1) := by decide +kernel
theorem dX12_between_32 : decode cX12_between 32 = .ok (.iload_n 2, 1) := by decide +kernel
theorem dX12_between_33 : decode cX12_between 33 = .ok (.if_icmp .ne 14, 3) := by decide +kernel
theorem dX12_between_36 : decode cX12_between 36 = .ok (.aload_n 0, 1) := by decide +kernel
theorem dX12_between_37 : decode cX12_between 37 = .ok (.getfield 43, 3) := by decide +kernel
theorem dX12_between_40 : decode cX12_between 40 = .ok (.iload 6, 2) := by decide +kernel
theorem dX12_between_42 : decode cX12_between 42 = .ok (.iaload, 1) := by decide +kernel
theorem dX12_between_43 : decode cX12_between 43 = .ok (.iload_n 3, 1) := by decide +kernel
theorem dX12_between_44 : decode cX12_between 44 = .ok (.if_icmp .eq 25, 3) := by decide +kernel
theorem dX12_between_47 : decode cX12_between 47 = .ok (.aload_n 0, 1) := by decide +kernel
theorem dX12_between_48 : decode cX12_between 48 = .ok (.getfield 40, 3) := by decide +kernel
theorem dX12_between_51 : decode cX12_between 51 = .ok (.iload 6, 2) := by decide +kernel
theorem dX12_between_53 : decode cX12_between 53 = .ok (.iaload, 1) := by decide +kernel
theorem dX12_between_54 : decode cX12_between 54 = .ok (.iload_n 3, 1) := by decide +kernel
theorem dX12_between_55 : decode cX12_between 55 = .ok (.if_icmp .ne 18, 3) := by decide +kernel
theorem dX12_between_58 : decode cX12_between 58 = .ok (.aload_n 0, 1) := by decide +kernel
theorem dX12_between_59 : decode cX12_between 59 = .ok (.getfield 43, 3) := by decide +kernel
theorem dX12_between_62 : decode cX12_between 62 = .ok (.iload 6, 2) := by decide +kernel
theorem dX12_between_64 : decode cX12_between 64 = .ok (.iaload, 1) := by decide +kernel
theorem dX12_between_65 : decode cX12_between 65 = .ok (.iload_n 2, 1) := by decide +kernel
theorem dX12_between_66 : decode cX12_between 66 = .ok (.if_icmp .ne 7, 3) := by decide +kernel
theorem dX12_between_69 : decode cX12_between 69 = .ok (.iconst 1, 1) := by decide +kernel
theorem dX12_between_70 : decode cX12_between 70 = .ok (.goto 4, 3) := by decide +kernel
theorem dX12_between_73 : decode cX12_between 73 = .ok (.iconst 0, 1) := by decide +kernel
theorem dX12_between_74 : decode cX12_between 74 = .ok (.istore 7, 2) := by decide +kernel
theorem dX12_between_76 : decode cX12_between 76 = .ok (.iload 5, 2) := by decide +kernel
theorem dX12_between_78 : decode cX12_between 78 = .ok (.iload 7, 2) := by decide +kernel
theorem dX12_between_80 : decode cX12_between 80 = .ok (.ifCond .eq 19, 3) := by decide +kernel
theorem dX12_between_83 : decode cX12_between 83 = .ok (.aload_n 0, 1) := by decide +kernel
theorem dX12_between_84 : decode cX12_between 84 = .ok (.getfield 37, 3) := by decide +kernel
theorem dX12_between_87 : decode cX12_between 87 = .ok (.iload 6, 2) := by decide +kernel
theorem dX12_between_89 : decode cX12_between 89 = .ok (.iaload, 1) := by decide +kernel
theorem dX12_between_90 : decode cX12_between 90 = .ok (.iload 4, 2) := by decide +kernel
theorem dX12_between_92 : decode cX12_between 92 = .ok (.if_icmp .ne 7, 3) := by decide +kernel
theorem dX12_between_95 : decode cX12_between 95 = .ok (.iconst 1, 1) := by decide +kernel
theorem dX12_between_96 : decode cX12_between 96 = .ok (.goto 4, 3) := by decide +kernel
theorem dX12_between_99 : decode cX12_between 99 = .ok (.iconst 0, 1) := by decide +kernel
theorem dX12_between_100 : decode cX12_between 100 = .ok (.iadd, 1) := by decide +kernel
theorem dX12_between_101 : decode cX12_between 101 = .ok (.istore 5, 2) := by decide +kernel
theorem dX12_between_103 : decode cX12_between 103 = .ok (.iinc 6 1, 3) := by decide +kernel
theorem dX12_between_106 : decode cX12_between 106 = .ok (.goto (-97), 3) := by decide +kernel
theorem dX12_between_109 : decode cX12_between 109 = .ok (.iload 5, 2) := by decide +kernel
theorem dX12_between_111 : decode cX12_between 111 = .ok (.ireturn, 1) := by decide +kernel
theorem dX12_isSame_0 : decode cX12_isSame 0 = .ok (.bipush 24, 2) := by decide +kernel
theorem dX12_isSame_2 : decode cX12_isSame 2 = .ok (.iload_n 1, 1) := by decide +kernel
theorem dX12_isSame_3 : decode cX12_isSame 3 = .ok (.imul, 1) := by decide +kernel
theorem dX12_isSame_4 : decode cX12_isSame 4 = .ok (.istore 7, 2) := by decide +kernel
theorem dX12_isSame_6 : decode cX12_isSame 6 = .ok (.iload 7, 2) := by decide +kernel
theorem dX12_isSame_8 : decode cX12_isSame 8 = .ok (.bipush 24, 2) := by decide +kernel
theorem dX12_isSame_10 : decode cX12_isSame 10 = .ok (.iload_n 1, 1) := by decide +kernel
theorem dX12_isSame_11 : decode cX12_isSame 11 = .ok (.imul, 1) := by decide +kernel
theorem dX12_isSame_12 : decode cX12_isSame 12 = .ok (.aload_n 0, 1) := by decide +kernel
theorem dX12_isSame_13 : decode cX12_isSame 13 = .ok (.getfield 31, 3) := by decide +kernel
theorem dX12_isSame_16 : decode cX12_isSame 16 = .ok (.iload_n 1, 1) := by decide +kernel
theorem dX12_isSame_17 : decode cX12_isSame 17 = .ok (.iaload, 1) := by decide +kernel
theorem dX12_isSame_18 : decode cX12_isSame 18 = .ok (.iadd, 1) := by decide +kernel
theorem dX12_isSame_19 : decode cX12_isSame 19 = .ok (.if_icmp .ge 45, 3) := by decide +kernel
theorem dX12_isSame_22 : decode cX12_isSame 22 = .ok (.aload_n 0, 1) := by decide +kernel
theorem dX12_isSame_23 : decode cX12_isSame 23 = .ok (.iload_n 1, 1) := by decide +kernel
theorem dX12_isSame_24 : decode cX12_isSame 24 = .ok (.iload_n 2, 1) := by decide +kernel
theorem dX12_isSame_25 : decode cX12_isSame 25 = .ok (.iload_n 3, 1) := by decide +kernel
theorem dX12_isSame_26 : decode cX12_isSame 26 = .ok (.aload_n 0, 1) := by decide +kernel
theorem dX12_isSame_27 : decode cX12_isSame 27 = .ok (.getfield 37, 3) := by decide +kernel
theorem dX12_isSame_30 : decode cX12_isSame 30 = .ok (.iload 7, 2) := by decide +kernel
theorem dX12_isSame_32 : decode cX12_isSame 32 = .ok (.iaload, 1) := by decide +kernel
theorem dX12_isSame_33 : decode cX12_isSame 33 = .ok (.invokevirtual 347, 3) := by decide +kernel
theorem dX12_isSame_36 : decode cX12_isSame 36 = .ok (.aload_n 0, 1) := by decide +kernel
theorem dX12_isSame_37 : decode cX12_isSame 37 = .ok (.iload 4, 2) := by decide +kernel
theorem dX12_isSame_39 : decode cX12_isSame 39 = .ok (.iload 5, 2) := by decide +kernel
theorem dX12_isSame_41 : decode cX12_isSame 41 = .ok (.iload 6, 2) := by decide +kernel
theorem dX12_isSame_43 : decode cX12_isSame 43 = .ok (.aload_n 0, 1) := by decide +kernel
theorem dX12_isSame_44 : decode cX12_isSame 44 = .ok (.getfield 37, 3) := by decide +kernel
theorem dX12_isSame_47 : decode cX12_isSame 47 = .ok (.iload 7, 2) := by decide +kernel
theorem dX12_isSame_49 : decode cX12_isSame 49 = .ok (.iaload, 1) := by decide +kernel
theorem dX12_isSame_50 : decode cX12_isSame 50 = .ok (.invokevirtual 347, 3) := by decide +kernel
theorem dX12_isSame_53 : decode cX12_isSame 53 = .ok (.if_icmp .eq 5, 3) := by decide +kernel
theorem dX12_isSame_56 : decode cX12_isSame 56 = .ok (.iconst 0, 1) := by decide +kernel
theorem dX12_isSame_57 : decode cX12_isSame 57 = .ok (.ireturn, 1) := by decide +kernel
theorem dX12_isSame_58 : decode cX12_isSame 58 = .ok (.iinc 7 1, 3) := by decide +kernel
theorem dX12_isSame_61 : decode cX12_isSame 61 = .ok (.goto (-55), 3) := by decide +kernel
theorem dX12_isSame_64 : decode cX12_isSame 64 = .ok (.bipush 24, 2) := by decide +kernel
theorem dX12_isSame_66 : decode cX12_isSame 66 = .ok (.iload 4, 2) := by decide +kernel
theorem dX12_isSame_68 : decode cX12_isSame 68 = .ok (.imul, 1) := by decide +kernel
theorem dX12_isSame_69 : decode cX12_isSame 69 = .ok (.istore 7, 2) := by decide +kernel
theorem dX12_isSame_71 : decode cX12_isSame 71 = .ok (.iload 7, 2) := by decide +kernel
theorem dX12_isSame_73 : decode cX12_isSame 73 = .ok (.bipush 24, 2) := by decide +kernel
theorem dX12_isSame_75 : decode cX12_isSame 75 = .ok (.iload 4, 2) := by decide +kernel
theorem dX12_isSame_77 : decode cX12_isSame 77 = .ok (.imul, 1) := by decide +kernel
theorem dX12_isSame_78 : decode cX12_isSame 78 = .ok (.aload_n 0, 1) := by decide +kernel
theorem dX12_isSame_79 : decode cX12_isSame 79 = .ok (.getfield 31, 3) := by decide +kernel
theorem dX12_isSame_82 : decode cX12_isSame 82 = .ok (.iload 4, 2) := by decide +kernel
theorem dX12_isSame_84 : decode cX12_isSame 84 = .ok (.iaload, 1) := by decide +kernel
theorem dX12_isSame_85 : decode cX12_isSame 85 = .ok (.iadd, 1) := by decide +kernel
theorem dX12_isSame_86 : decode cX12_isSame 86 = .ok (.if_icmp .ge 45, 3) := by decide +kernel
theorem dX12_isSame_89 : decode cX12_isSame 89 = .ok (.aload_n 0, 1) := by decide +kernel
theorem dX12_isSame_90 : decode cX12_isSame 90 = .ok (.iload_n 1, 1) := by decide +kernel
theorem dX12_isSame_91 : decode cX12_isSame 91 = .ok (.iload_n 2, 1) := by decide +kernel
theorem dX12_isSame_92 : decode cX12_isSame 92 = .ok (.iload_n 3, 1) := by decide +kernel
theorem dX12_isSame_93 : decode cX12_isSame 93 = .ok (.aload_n 0, 1) := by decide +kernel
theorem dX12_isSame_94 : decode cX12_isSame 94 = .ok (.getfield 37, 3) := by decide +kernel
theorem dX12_isSame_97 : decode cX12_isSame 97 = .ok (.iload 7, 2) := by decide +kernel
theorem dX12_isSame_99 : decode cX12_isSame 99 = .ok (.iaload, 1) := by decide +kernel
theorem dX12_isSame_100 : decode cX12_isSame 100 = .ok (.invokevirtual 347, 3) := by decide +kernel
theorem dX12_isSame_103 : decode cX12_isSame 103 = .ok (.aload_n 0, 1) := by decide +kernel
theorem dX12_isSame_104 : decode cX12_isSame 104 = .ok (.iload 4, 2) := by decide +kernel
theorem dX12_isSame_106 : decode cX12_isSame 106 = .ok (.iload 5, 2) := by decide +kernel
theorem dX12_isSame_108 : decode cX12_isSame 108 = .ok (.iload 6, 2) := by decide +kernel
theorem dX12_isSame_110 : decode cX12_isSame 110 = .ok (.aload_n 0, 1) := by decide +kernel
theorem dX12_isSame_111 : decode cX12_isSame 111 = .ok (.getfield 37, 3) := by decide +kernel
theorem dX12_isSame_114 : decode cX12_isSame 114 = .ok (.iload 7, 2) := by decide +kernel
theorem dX12_isSame_116 : decode cX12_isSame 116 = .ok (.iaload, 1) := by decide +kernel
theorem dX12_isSame_117 : decode cX12_isSame 117 = .ok (.invokevirtual 347, 3) := by decide +kernel
theorem dX12_isSame_120 : decode cX12_isSame 120 = .ok (.if_icmp .eq 5, 3) := by decide +kernel
theorem dX12_isSame_123 : decode cX12_isSame 123 = .ok (.iconst 0, 1) := by decide +kernel
theorem dX12_isSame_124 : decode cX12_isSame 124 = .ok (.ireturn, 1) := by decide +kernel
theorem dX12_isSame_125 : decode cX12_isSame 125 = .ok (.iinc 7 1, 3) := by decide +kernel
theorem dX12_isSame_128 : decode cX12_isSame 128 = .ok (.goto (-57), 3) := by decide +kernel
theorem dX12_isSame_131 : decode cX12_isSame 131 = .ok (.iconst 1, 1) := by decide +kernel
theorem dX12_isSame_132 : decode cX12_isSame 132 = .ok (.ireturn, 1) := by decide +kernel
theorem dX12_pairs_0 : decode cX12_pairs 0 = .ok (.iload_n 3, 1) := by decide +kernel
theorem dX12_pairs_1 : decode cX12_pairs 1 = .ok (.aload_n 0, 1) := by decide +kernel
theorem dX12_pairs_2 : decode cX12_pairs 2 = .ok (.getfield 34, 3) := by decide +kernel
theorem dX12_pairs_5 : decode cX12_pairs 5 = .ok (.iload_n 1, 1) := by decide +kernel
theorem dX12_pairs_6 : decode cX12_pairs 6 = .ok (.iaload, 1) := by decide +kernel
theorem dX12_pairs_7 : decode cX12_pairs 7 = .ok (.if_icmp .ne 5, 3) := by decide +kernel
theorem dX12_pairs_10 : decode cX12_pairs 10 = .ok (.iconst 1, 1) := by decide +kernel
theorem dX12_pairs_11 : decode cX12_pairs 11 = .ok (.ireturn, 1) := by decide +kernel
theorem dX12_pairs_12 : decode cX12_pairs 12 = .ok (.iconst 0, 1) := by decide +kernel
theorem dX12_pairs_13 : decode cX12_pairs 13 = .ok (.istore 5, 2) := by decide +kernel
theorem dX12_pairs_15 : decode cX12_pairs 15 = .ok (.iload 5, 2) := by decide +kernel
theorem dX12_pairs_17 : decode cX12_pairs 17 = .ok (.aload_n 0, 1) := by decide +kernel
theorem dX12_pairs_18 : decode cX12_pairs 18 = .ok (.getfield 34, 3) := by decide +kernel
theorem dX12_pairs_21 : decode cX12_pairs 21 = .ok (.iload_n 2, 1) := by decide +kernel
theorem dX12_pairs_22 : decode cX12_pairs 22 = .ok (.iaload, 1) := by decide +kernel
theorem dX12_pairs_23 : decode cX12_pairs 23 = .ok (.if_icmp .ge 100, 3) := by decide +kernel
theorem dX12_pairs_26 : decode cX12_pairs 26 = .ok (.iload 4, 2) := by decide +kernel
theorem dX12_pairs_28 : decode cX12_pairs 28 = .ok (.iload 5, 2) := by decide +kernel
theorem dX12_pairs_30 : decode cX12_pairs 30 = .ok (.ishr, 1) := by decide +kernel
theorem dX12_pairs_31 : decode cX12_pairs 31 = .ok (.iconst 1, 1) := by decide +kernel
theorem dX12_pairs_32 : decode cX12_pairs 32 = .ok (.iand, 1) := by decide +kernel
theorem dX12_pairs_33 : decode cX12_pairs 33 = .ok (.iconst 1, 1) := by decide +kernel
theorem dX12_pairs_34 : decode cX12_pairs 34 = .ok (.if_icmp .ne 6, 3) := by decide +kernel
theorem dX12_pairs_37 : decode cX12_pairs 37 = .ok (.goto 80, 3) := by decide +kernel
theorem dX12_pairs_40 : decode cX12_pairs 40 = .ok (.aload_n 0, 1) := by decide +kernel
theorem dX12_pairs_41 : decode cX12_pairs 41 = .ok (.getfield 77, 3) := by decide +kernel
theorem dX12_pairs_44 : decode cX12_pairs 44 = .ok (.iload_n 3, 1) := by decide +kernel
theorem dX12_pairs_45 : decode cX12_pairs 45 = .ok (.iload 5, 2) := by decide +kernel
theorem dX12_pairs_47 : decode cX12_pairs 47 = .ok (.iastore, 1) := by decide +kernel
theorem dX12_pairs_48 : decode cX12_pairs 48 = .ok (.iconst 1, 1) := by decide +kernel
theorem dX12_pairs_49 : decode cX12_pairs 49 = .ok (.istore 6, 2) := by decide +kernel
theorem dX12_pairs_51 : decode cX12_pairs 51 = .ok (.iconst 0, 1) := by decide +kernel
theorem dX12_pairs_52 : decode cX12_pairs 52 = .ok (.istore 7, 2) := by decide +kernel
theorem dX12_pairs_54 : decode cX12_pairs 54 = .ok (.iload 7, 2) := by decide +kernel
theorem dX12_pairs_56 : decode cX12_pairs 56 = .ok (.iload_n 3, 1) := by decide +kernel
theorem dX12_pairs_57 : decode cX12_pairs 57 = .ok (.if_icmp .gt 34, 3) := by decide +kernel
theorem dX12_pairs_60 : decode cX12_pairs 60 = .ok (.iload 6, 2) := by decide +kernel
theorem dX12_pairs_62 : decode cX12_pairs 62 = .ok (.ifCond .eq 29, 3) := by decide +kernel
theorem dX12_pairs_65 : decode cX12_pairs 65 = .ok (.aload_n 0, 1) := by decide +kernel
theorem dX12_pairs_66 : decode cX12_pairs 66 = .ok (.iload_n 1, 1) := by decide +kernel
theorem dX12_pairs_67 : decode cX12_pairs 67 = .ok (.iload_n 3, 1) := by decide +kernel
theorem dX12_pairs_68 : decode cX12_pairs 68 = .ok (.iload 7, 2) := by decide +kernel
theorem dX12_pairs_70 : decode cX12_pairs 70 = .ok (.iload_n 2, 1) := by decide +kernel
theorem dX12_pairs_71 : decode cX12_pairs 71 = .ok (.iload 5, 2) := by decide +kernel
theorem dX12_pairs_73 : decode cX12_pairs 73 = .ok (.aload_n 0, 1) := by decide +kernel
theorem dX12_pairs_74 : decode cX12_pairs 74 = .ok (.getfield 77, 3) := by decide +kernel
theorem dX12_pairs_77 : decode cX12_pairs 77 = .ok (.iload 7, 2) := by decide +kernel
theorem dX12_pairs_79 : decode cX12_pairs 79 = .ok (.iaload, 1) := by decide +kernel
theorem dX12_pairs_80 : decode cX12_pairs 80 = .ok (.invokevirtual 351, 3) := by decide +kernel
theorem dX12_pairs_83 : decode cX12_pairs 83 = .ok (.istore 6, 2) := by decide +kernel
theorem dX12_pairs_85 : decode cX12_pairs 85 = .ok (.iinc 7 1, 3) := by decide +kernel
theorem dX12_pairs_88 : decode cX12_pairs 88 = .ok (.goto (-34), 3) := by decide +kernel
theorem dX12_pairs_91 : decode cX12_pairs 91 = .ok (.iload 6, 2) := by decide +kernel
theorem dX12_pairs_93 : decode cX12_pairs 93 = .ok (.ifCond .eq 24, 3) := by decide +kernel
theorem dX12_pairs_96 : decode cX12_pairs 96 = .ok (.aload_n 0, 1) := by decide +kernel
theorem dX12_pairs_97 : decode cX12_pairs 97 = .ok (.iload_n 1, 1) := by decide +kernel
theorem dX12_pairs_98 : decode cX12_pairs 98 = .ok (.iload_n 2, 1) := by decide +kernel
theorem dX12_pairs_99 : decode cX12_pairs 99 = .ok (.iload_n 3, 1) := by decide +kernel
theorem dX12_pairs_100 : decode cX12_pairs 100 = .ok (.iconst 1, 1) := by decide +kernel
theorem dX12_pairs_101 : decode cX12_pairs 101 = .ok (.iadd, 1) := by decide +kernel
theorem dX12_pairs_102 : decode cX12_pairs 102 = .ok (.iload 4, 2) := by decide +kernel
theorem dX12_pairs_104 : decode cX12_pairs 104 = .ok (.iconst 1, 1) := by decide +kernel
theorem dX12_pairs_105 : decode cX12_pairs 105 = .ok (.iload 5, 2) := by decide +kernel
theorem dX12_pairs_107 : decode cX12_pairs 107 = .ok (.ishl, 1) := by decide +kernel
theorem dX12_pairs_108 : decode cX12_pairs 108 = .ok (.ior, 1) := by decide +kernel
theorem dX12_pairs_109 : decode cX12_pairs 109 = .ok (.invokevirtual 355, 3) := by decide +kernel
theorem dX12_pairs_112 : decode cX12_pairs 112 = .ok (.ifCond .eq 5, 3) := by decide +kernel
theorem dX12_pairs_115 : decode cX12_pairs 115 = .ok (.iconst 1, 1) := by decide +kernel
theorem dX12_pairs_116 : decode cX12_pairs 116 = .ok (.ireturn, 1) := by decide +kernel
theorem dX12_pairs_117 : decode cX12_pairs 117 = .ok (.iinc 5 1, 3) := by decide +kernel
theorem dX12_pairs_120 : decode cX12_pairs 120 = .ok (.goto (-105), 3) := by decide +kernel
theorem dX12_pairs_123 : decode cX12_pairs 123 = .ok (.iconst 0, 1) := by decide +kernel
theorem dX12_pairs_124 : decode cX12_pairs 124 = .ok (.ireturn, 1) := by decide +kernel
theorem dX12_mayMatch_0 : decode cX12_mayMatch 0 = .ok (.aload_n 0, 1) := by decide +kernel
theorem dX12_mayMatch_1 : decode cX12_mayMatch 1 = .ok (.iload_n 1, 1) := by decide +kernel
theorem dX12_mayMatch_2 : decode cX12_mayMatch 2 = .ok (.invokevirtual 284, 3) := by decide +kernel
theorem dX12_mayMatch_5 : decode cX12_mayMatch 5 = .ok (.ifCond .eq 37, 3) := by decide +kernel
theorem dX12_mayMatch_8 : decode cX12_mayMatch 8 = .ok (.aload_n 0, 1) := by decide +kernel
theorem dX12_mayMatch_9 : decode cX12_mayMatch 9 = .ok (.iload_n 2, 1) := by decide +kernel
theorem dX12_mayMatch_10 : decode cX12_mayMatch 10 = .ok (.invokevirtual 284, 3) := by decide +kernel
theorem dX12_mayMatch_13 : decode cX12_mayMatch 13 = .ok (.ifCond .eq 29, 3) := by decide +kernel
theorem dX12_mayMatch_16 : decode cX12_mayMatch 16 = .ok (.aload_n 0, 1) := by decide +kernel
theorem dX12_mayMatch_17 : decode cX12_mayMatch 17 = .ok (.getfield 34, 3) := by decide +kernel
theorem dX12_mayMatch_20 : decode cX12_mayMatch 20 = .ok (.iload_n 1, 1) := by decide +kernel
theorem dX12_mayMatch_21 : decode cX12_mayMatch 21 = .ok (.iaload, 1) := by decide +kernel
theorem dX12_mayMatch_22 : decode cX12_mayMatch 22 = .ok (.bipush 8, 2) := by decide +kernel
theorem dX12_mayMatch_24 : decode cX12_mayMatch 24 = .ok (.if_icmp .gt 18, 3) := by decide +kernel
theorem dX12_mayMatch_27 : decode cX12_mayMatch 27 = .ok (.aload_n 0, 1) := by decide +kernel
theorem dX12_mayMatch_28 : decode cX12_mayMatch 28 = .ok (.getfield 34, 3) := by decide +kernel
theorem dX12_mayMatch_31 : decode cX12_mayMatch 31 = .ok (.iload_n 2, 1) := by decide +kernel
theorem dX12_mayMatch_32 : decode cX12_mayMatch 32 = .ok (.iaload, 1) := by decide +kernel
theorem dX12_mayMatch_33 : decode cX12_mayMatch 33 = .ok (.bipush 8, 2) := by decide +kernel
theorem dX12_mayMatch_35 : decode cX12_mayMatch 35 = .ok (.if_icmp .gt 7, 3) := by decide +kernel
theorem dX12_mayMatch_38 : decode cX12_mayMatch 38 = .ok (.iconst 1, 1) := by decide +kernel
theorem dX12_mayMatch_39 : decode cX12_mayMatch 39 = .ok (.goto 4, 3) := by decide +kernel
theorem dX12_mayMatch_42 : decode cX12_mayMatch 42 = .ok (.iconst 0, 1) := by decide +kernel
theorem dX12_mayMatch_43 : decode cX12_mayMatch 43 = .ok (.ireturn, 1) := by decide +kernel
theorem dX12_areAlike_0 : decode cX12_areAlike 0 = .ok (.aload_n 0, 1) := by decide +kernel
theorem dX12_areAlike_1 : decode cX12_areAlike 1 = .ok (.getfield 34, 3) := by decide +kernel
theorem dX12_areAlike_4 : decode cX12_areAlike 4 = .ok (.iload_n 1, 1) := by decide +kernel
theorem dX12_areAlike_5 : decode cX12_areAlike 5 = .ok (.iaload, 1) := by decide +kernel
theorem dX12_areAlike_6 : decode cX12_areAlike 6 = .ok (.aload_n 0, 1) := by decide +kernel
theorem dX12_areAlike_7 : decode cX12_areAlike 7 = .ok (.getfield 34, 3) := by decide +kernel
theorem dX12_areAlike_10 : decode cX12_areAlike 10 = .ok (.iload_n 2, 1) := by decide +kernel
theorem dX12_areAlike_11 : decode cX12_areAlike 11 = .ok (.iaload, 1) := by decide +kernel
theorem dX12_areAlike_12 : decode cX12_areAlike 12 = .ok (.if_icmp .ne 33, 3) := by decide +kernel
theorem dX12_areAlike_15 : decode cX12_areAlike 15 = .ok (.aload_n 0, 1) := by decide +kernel
theorem dX12_areAlike_16 : decode cX12_areAlike 16 = .ok (.getfield 31, 3) := by decide +kernel
theorem dX12_areAlike_19 : decode cX12_areAlike 19 = .ok (.iload_n 1, 1) := by decide +kernel
theorem dX12_areAlike_20 : decode cX12_areAlike 20 = .ok (.iaload, 1) := by decide +kernel
theorem dX12_areAlike_21 : decode cX12_areAlike 21 = .ok (.aload_n 0, 1) := by decide +kernel
theorem dX12_areAlike_22 : decode cX12_areAlike 22 = .ok (.getfield 31, 3) := by decide +kernel
theorem dX12_areAlike_25 : decode cX12_areAlike 25 = .ok (.iload_n 2, 1) := by decide +kernel
theorem dX12_areAlike_26 : decode cX12_areAlike 26 = .ok (.iaload, 1) := by decide +kernel
theorem dX12_areAlike_27 : decode cX12_areAlike 27 = .ok (.if_icmp .ne 18, 3) := by decide +kernel
theorem dX12_areAlike_30 : decode cX12_areAlike 30 = .ok (.aload_n 0, 1) := by decide +kernel
theorem dX12_areAlike_31 : decode cX12_areAlike 31 = .ok (.iload_n 1, 1) := by decide +kernel
theorem dX12_areAlike_32 : decode cX12_areAlike 32 = .ok (.iload_n 2, 1) := by decide +kernel
theorem dX12_areAlike_33 : decode cX12_areAlike 33 = .ok (.iconst 0, 1) := by decide +kernel
theorem dX12_areAlike_34 : decode cX12_areAlike 34 = .ok (.iconst 0, 1) := by decide +kernel
theorem dX12_areAlike_35 : decode cX12_areAlike 35 = .ok (.invokevirtual 355, 3) := by decide +kernel
theorem dX12_areAlike_38 : decode cX12_areAlike 38 = .ok (.ifCond .eq 7, 3) := by decide +kernel
theorem dX12_areAlike_41 : decode cX12_areAlike 41 = .ok (.iconst 1, 1) := by decide +kernel
theorem dX12_areAlike_42 : decode cX12_areAlike 42 = .ok (.goto 4, 3) := by decide +kernel
theorem dX12_areAlike_45 : decode cX12_areAlike 45 = .ok (.iconst 0, 1) := by decide +kernel
theorem dX12_areAlike_46 : decode cX12_areAlike 46 = .ok (.ireturn, 1) := by decide +kernel
theorem dX12_alike_0 : decode cX12_alike 0 = .ok (.aload_n 0, 1) := by decide +kernel
theorem dX12_alike_1 : decode cX12_alike 1 = .ok (.iload_n 1, 1) := by decide +kernel
theorem dX12_alike_2 : decode cX12_alike 2 = .ok (.iload_n 2, 1) := by decide +kernel
theorem dX12_alike_3 : decode cX12_alike 3 = .ok (.invokevirtual 359, 3) := by decide +kernel
theorem dX12_alike_6 : decode cX12_alike 6 = .ok (.ifCond .eq 20, 3) := by decide +kernel
theorem dX12_alike_9 : decode cX12_alike 9 = .ok (.aload_n 0, 1) := by decide +kernel
theorem dX12_alike_10 : decode cX12_alike 10 = .ok (.iload_n 1, 1) := by decide +kernel
theorem dX12_alike_11 : decode cX12_alike 11 = .ok (.iload_n 2, 1) := by decide +kernel
theorem dX12_alike_12 : decode cX12_alike 12 = .ok (.invokevirtual 362, 3) := by decide +kernel
theorem dX12_alike_15 : decode cX12_alike 15 = .ok (.ifCond .eq 7, 3) := by decide +kernel
theorem dX12_alike_18 : decode cX12_alike 18 = .ok (.iconst 1, 1) := by decide +kernel
theorem dX12_alike_19 : decode cX12_alike 19 = .ok (.goto 8, 3) := by decide +kernel
theorem dX12_alike_22 : decode cX12_alike 22 = .ok (.iconst 0, 1) := by decide +kernel
theorem dX12_alike_23 : decode cX12_alike 23 = .ok (.goto 4, 3) := by decide +kernel
theorem dX12_alike_26 : decode cX12_alike 26 = .ok (.iconst (-1), 1) := by decide +kernel
theorem dX12_alike_27 : decode cX12_alike 27 = .ok (.ireturn, 1) := by decide +kernel
theorem dX12_match_0 : decode cX12_match 0 = .ok (.aload_n 0, 1) := by decide +kernel
theorem dX12_match_1 : decode cX12_match 1 = .ok (.iload_n 1, 1) := by decide +kernel
theorem dX12_match_2 : decode cX12_match 2 = .ok (.iload_n 2, 1) := by decide +kernel
theorem dX12_match_3 : decode cX12_match 3 = .ok (.invokevirtual 359, 3) := by decide +kernel
theorem dX12_match_6 : decode cX12_match 6 = .ok (.ifCond .eq 30, 3) := by decide +kernel
theorem dX12_match_9 : decode cX12_match 9 = .ok (.aload_n 0, 1) := by decide +kernel
theorem dX12_match_10 : decode cX12_match 10 = .ok (.iload_n 1, 1) := by decide +kernel
theorem dX12_match_11 : decode cX12_match 11 = .ok (.iload_n 3, 1) := by decide +kernel
theorem dX12_match_12 : decode cX12_match 12 = .ok (.invokevirtual 307, 3) := by decide +kernel
theorem dX12_match_15 : decode cX12_match 15 = .ok (.ifCond .eq 21, 3) := by decide +kernel
theorem dX12_match_18 : decode cX12_match 18 = .ok (.aload_n 0, 1) := by decide +kernel
theorem dX12_match_19 : decode cX12_match 19 = .ok (.iload_n 1, 1) := by decide +kernel
theorem dX12_match_20 : decode cX12_match 20 = .ok (.iload_n 2, 1) := by decide +kernel
theorem dX12_match_21 : decode cX12_match 21 = .ok (.invokevirtual 362, 3) := by decide +kernel
theorem dX12_match_24 : decode cX12_match 24 = .ok (.ifCond .eq 12, 3) := by decide +kernel
theorem dX12_match_27 : decode cX12_match 27 = .ok (.aload_n 0, 1) := by decide +kernel
theorem dX12_match_28 : decode cX12_match 28 = .ok (.getfield 77, 3) := by decide +kernel
theorem dX12_match_31 : decode cX12_match 31 = .ok (.iload_n 3, 1) := by decide +kernel
theorem dX12_match_32 : decode cX12_match 32 = .ok (.iaload, 1) := by decide +kernel
theorem dX12_match_33 : decode cX12_match 33 = .ok (.goto 4, 3) := by decide +kernel
theorem dX12_match_36 : decode cX12_match 36 = .ok (.iconst (-1), 1) := by decide +kernel
theorem dX12_match_37 : decode cX12_match 37 = .ok (.ireturn, 1) := by decide +kernel
theorem dX12_findFars_0 : decode cX12_findFars 0 = .ok (.aload_n 0, 1) := by decide +kernel
theorem dX12_findFars_1 : decode cX12_findFars 1 = .ok (.getfield 34, 3) := by decide +kernel
theorem dX12_findFars_4 : decode cX12_findFars 4 = .ok (.iload_n 1, 1) := by decide +kernel
theorem dX12_findFars_5 : decode cX12_findFars 5 = .ok (.iaload, 1) := by decide +kernel
theorem dX12_findFars_6 : decode cX12_findFars 6 = .ok (.istore_n 2, 1) := by decide +kernel
theorem dX12_findFars_7 : decode cX12_findFars 7 = .ok (.iconst 0, 1) := by decide +kernel
theorem dX12_findFars_8 : decode cX12_findFars 8 = .ok (.istore_n 3, 1) := by decide +kernel
theorem dX12_findFars_9 : decode cX12_findFars 9 = .ok (.iload_n 3, 1) := by decide +kernel
theorem dX12_findFars_10 : decode cX12_findFars 10 = .ok (.iload_n 2, 1) := by decide +kernel
theorem dX12_findFars_11 : decode cX12_findFars 11 = .ok (.if_icmp .ge 49, 3) := by decide +kernel
theorem dX12_findFars_14 : decode cX12_findFars 14 = .ok (.iconst 0, 1) := by decide +kernel
theorem dX12_findFars_15 : decode cX12_findFars 15 = .ok (.istore 4, 2) := by decide +kernel
theorem dX12_findFars_17 : decode cX12_findFars 17 = .ok (.iload 4, 2) := by decide +kernel
theorem dX12_findFars_19 : decode cX12_findFars 19 = .ok (.iload_n 2, 1) := by decide +kernel
theorem dX12_findFars_20 : decode cX12_findFars 20 = .ok (.if_icmp .ge 34, 3) := by decide +kernel
theorem dX12_findFars_23 : decode cX12_findFars 23 = .ok (.aload_n 0, 1) := by decide +kernel
theorem dX12_findFars_24 : decode cX12_findFars 24 = .ok (.getfield 80, 3) := by decide +kernel
theorem dX12_findFars_27 : decode cX12_findFars 27 = .ok (.bipush 60, 2) := by decide +kernel
theorem dX12_findFars_29 : decode cX12_findFars 29 = .ok (.iload_n 3, 1) := by decide +kernel
theorem dX12_findFars_30 : decode cX12_findFars 30 = .ok (.imul, 1) := by decide +kernel
theorem dX12_findFars_31 : decode cX12_findFars 31 = .ok (.iload 4, 2) := by decide +kernel
theorem dX12_findFars_33 : decode cX12_findFars 33 = .ok (.iadd, 1) := by decide +kernel
theorem dX12_findFars_34 : decode cX12_findFars 34 = .ok (.iload_n 3, 1) := by decide +kernel
theorem dX12_findFars_35 : decode cX12_findFars 35 = .ok (.iload 4, 2) := by decide +kernel
theorem dX12_findFars_37 : decode cX12_findFars 37 = .ok (.if_icmp .ne 7, 3) := by decide +kernel
theorem dX12_findFars_40 : decode cX12_findFars 40 = .ok (.iconst 0, 1) := by decide +kernel
theorem dX12_findFars_41 : decode cX12_findFars 41 = .ok (.goto 6, 3) := by decide +kernel
theorem dX12_findFars_44 : decode cX12_findFars 44 = .ok (.ldc_w 365, 3) := by decide +kernel
theorem dX12_findFars_47 : decode cX12_findFars 47 = .ok (.iastore, 1) := by decide +kernel
theorem dX12_findFars_48 : decode cX12_findFars 48 = .ok (.iinc 4 1, 3) := by decide +kernel
theorem dX12_findFars_51 : decode cX12_findFars 51 = .ok (.goto (-34), 3) := by decide +kernel
theorem dX12_findFars_54 : decode cX12_findFars 54 = .ok (.iinc 3 1, 3) := by decide +kernel
theorem dX12_findFars_57 : decode cX12_findFars 57 = .ok (.goto (-48), 3) := by decide +kernel
theorem dX12_findFars_60 : decode cX12_findFars 60 = .ok (.bipush 24, 2) := by decide +kernel
theorem dX12_findFars_62 : decode cX12_findFars 62 = .ok (.iload_n 1, 1) := by decide +kernel
theorem dX12_findFars_63 : decode cX12_findFars 63 = .ok (.imul, 1) := by decide +kernel
theorem dX12_findFars_64 : decode cX12_findFars 64 = .ok (.istore_n 3, 1) := by decide +kernel
theorem dX12_findFars_65 : decode cX12_findFars 65 = .ok (.iload_n 3, 1) := by decide +kernel
theorem dX12_findFars_66 : decode cX12_findFars 66 = .ok (.bipush 24, 2) := by decide +kernel
theorem dX12_findFars_68 : decode cX12_findFars 68 = .ok (.iload_n 1, 1) := by decide +kernel
theorem dX12_findFars_69 : decode cX12_findFars 69 = .ok (.imul, 1) := by decide +kernel
theorem dX12_findFars_70 : decode cX12_findFars 70 = .ok (.aload_n 0, 1) := by decide +kernel
theorem dX12_findFars_71 : decode cX12_findFars 71 = .ok (.getfield 31, 3) := by decide +kernel
theorem dX12_findFars_74 : decode cX12_findFars 74 = .ok (.iload_n 1, 1) := by decide +kernel
theorem dX12_findFars_75 : decode cX12_findFars 75 = .ok (.iaload, 1) := by decide +kernel
theorem dX12_findFars_76 : decode cX12_findFars 76 = .ok (.iadd, 1) := by decide +kernel
theorem dX12_findFars_77 : decode cX12_findFars 77 = .ok (.if_icmp .ge 87, 3) := by decide +kernel
theorem dX12_findFars_80 : decode cX12_findFars 80 = .ok (.aload_n 0, 1) := by decide +kernel
theorem dX12_findFars_81 : decode cX12_findFars 81 = .ok (.getfield 37, 3) := by decide +kernel
theorem dX12_findFars_84 : decode cX12_findFars 84 = .ok (.iload_n 3, 1) := by decide +kernel
theorem dX12_findFars_85 : decode cX12_findFars 85 = .ok (.iaload, 1) := by decide +kernel
theorem dX12_findFars_86 : decode cX12_findFars 86 = .ok (.aload_n 0, 1) := by decide +kernel
theorem dX12_findFars_87 : decode cX12_findFars 87 = .ok (.getfield 80, 3) := by decide +kernel
theorem dX12_findFars_90 : decode cX12_findFars 90 = .ok (.bipush 60, 2) := by decide +kernel
theorem dX12_findFars_92 : decode cX12_findFars 92 = .ok (.aload_n 0, 1) := by decide +kernel
theorem dX12_findFars_93 : decode cX12_findFars 93 = .ok (.getfield 40, 3) := by decide +kernel
theorem dX12_findFars_96 : decode cX12_findFars 96 = .ok (.iload_n 3, 1) := by decide +kernel
theorem dX12_findFars_97 : decode cX12_findFars 97 = .ok (.iaload, 1) := by decide +kernel
theorem dX12_findFars_98 : decode cX12_findFars 98 = .ok (.imul, 1) := by decide +kernel
theorem dX12_findFars_99 : decode cX12_findFars 99 = .ok (.aload_n 0, 1) := by decide +kernel
theorem dX12_findFars_100 : decode cX12_findFars 100 = .ok (.getfield 43, 3) := by decide +kernel
theorem dX12_findFars_103 : decode cX12_findFars 103 = .ok (.iload_n 3, 1) := by decide +kernel
theorem dX12_findFars_104 : decode cX12_findFars 104 = .ok (.iaload, 1) := by decide +kernel
theorem dX12_findFars_105 : decode cX12_findFars 105 = .ok (.iadd, 1) := by decide +kernel
theorem dX12_findFars_106 : decode cX12_findFars 106 = .ok (.iaload, 1) := by decide +kernel
theorem dX12_findFars_107 : decode cX12_findFars 107 = .ok (.invokestatic 155, 3) := by decide +kernel
theorem dX12_findFars_110 : decode cX12_findFars 110 = .ok (.istore 4, 2) := by decide +kernel
theorem dX12_findFars_112 : decode cX12_findFars 112 = .ok (.aload_n 0, 1) := by decide +kernel
theorem dX12_findFars_113 : decode cX12_findFars 113 = .ok (.getfield 80, 3) := by decide +kernel
theorem dX12_findFars_116 : decode cX12_findFars 116 = .ok (.bipush 60, 2) := by decide +kernel
theorem dX12_findFars_118 : decode cX12_findFars 118 = .ok (.aload_n 0, 1) := by decide +kernel
theorem dX12_findFars_119 : decode cX12_findFars 119 = .ok (.getfield 40, 3) := by decide +kernel
theorem dX12_findFars_122 : decode cX12_findFars 122 = .ok (.iload_n 3, 1) := by decide +kernel
theorem dX12_findFars_123 : decode cX12_findFars 123 = .ok (.iaload, 1) := by decide +kernel
theorem dX12_findFars_124 : decode cX12_findFars 124 = .ok (.imul, 1) := by decide +kernel
theorem dX12_findFars_125 : decode cX12_findFars 125 = .ok (.aload_n 0, 1) := by decide +kernel
theorem dX12_findFars_126 : decode cX12_findFars 126 = .ok (.getfield 43, 3) := by decide +kernel
theorem dX12_findFars_129 : decode cX12_findFars 129 = .ok (.iload_n 3, 1) := by decide +kernel
theorem dX12_findFars_130 : decode cX12_findFars 130 = .ok (.iaload, 1) := by decide +kernel
theorem dX12_findFars_131 : decode cX12_findFars 131 = .ok (.iadd, 1) := by decide +kernel
theorem dX12_findFars_132 : decode cX12_findFars 132 = .ok (.iload 4, 2) := by decide +kernel
theorem dX12_findFars_134 : decode cX12_findFars 134 = .ok (.iastore, 1) := by decide +kernel
theorem dX12_findFars_135 : decode cX12_findFars 135 = .ok (.aload_n 0, 1) := by decide +kernel
theorem dX12_findFars_136 : decode cX12_findFars 136 = .ok (.getfield 80, 3) := by decide +kernel
theorem dX12_findFars_139 : decode cX12_findFars 139 = .ok (.bipush 60, 2) := by decide +kernel
theorem dX12_findFars_141 : decode cX12_findFars 141 = .ok (.aload_n 0, 1) := by decide +kernel
theorem dX12_findFars_142 : decode cX12_findFars 142 = .ok (.getfield 43, 3) := by decide +kernel
theorem dX12_findFars_145 : decode cX12_findFars 145 = .ok (.iload_n 3, 1) := by decide +kernel
theorem dX12_findFars_146 : decode cX12_findFars 146 = .ok (.iaload, 1) := by decide +kernel
theorem dX12_findFars_147 : decode cX12_findFars 147 = .ok (.imul, 1) := by decide +kernel
theorem dX12_findFars_148 : decode cX12_findFars 148 = .ok (.aload_n 0, 1) := by decide +kernel
theorem dX12_findFars_149 : decode cX12_findFars 149 = .ok (.getfield 40, 3) := by decide +kernel
theorem dX12_findFars_152 : decode cX12_findFars 152 = .ok (.iload_n 3, 1) := by decide +kernel
theorem dX12_findFars_153 : decode cX12_findFars 153 = .ok (.iaload, 1) := by decide +kernel
theorem dX12_findFars_154 : decode cX12_findFars 154 = .ok (.iadd, 1) := by decide +kernel
theorem dX12_findFars_155 : decode cX12_findFars 155 = .ok (.iload 4, 2) := by decide +kernel
theorem dX12_findFars_157 : decode cX12_findFars 157 = .ok (.iastore, 1) := by decide +kernel
theorem dX12_findFars_158 : decode cX12_findFars 158 = .ok (.iinc 3 1, 3) := by decide +kernel
theorem dX12_findFars_161 : decode cX12_findFars 161 = .ok (.goto (-96), 3) := by decide +kernel
theorem dX12_findFars_164 : decode cX12_findFars 164 = .ok (.iconst 0, 1) := by decide +kernel
theorem dX12_findFars_165 : decode cX12_findFars 165 = .ok (.istore_n 3, 1) := by decide +kernel
theorem dX12_findFars_166 : decode cX12_findFars 166 = .ok (.iload_n 3, 1) := by decide +kernel
theorem dX12_findFars_167 : decode cX12_findFars 167 = .ok (.iload_n 2, 1) := by decide +kernel
theorem dX12_findFars_168 : decode cX12_findFars 168 = .ok (.if_icmp .ge 93, 3) := by decide +kernel
theorem dX12_findFars_171 : decode cX12_findFars 171 = .ok (.iconst 0, 1) := by decide +kernel
theorem dX12_findFars_172 : decode cX12_findFars 172 = .ok (.istore 4, 2) := by decide +kernel
theorem dX12_findFars_174 : decode cX12_findFars 174 = .ok (.iload 4, 2) := by decide +kernel
theorem dX12_findFars_176 : decode cX12_findFars 176 = .ok (.iload_n 2, 1) := by decide +kernel
theorem dX12_findFars_177 : decode cX12_findFars 177 = .ok (.if_icmp .ge 78, 3) := by decide +kernel
theorem dX12_findFars_180 : decode cX12_findFars 180 = .ok (.iconst 0, 1) := by decide +kernel
theorem dX12_findFars_181 : decode cX12_findFars 181 = .ok (.istore 5, 2) := by decide +kernel
theorem dX12_findFars_183 : decode cX12_findFars 183 = .ok (.iload 5, 2) := by decide +kernel
theorem dX12_findFars_185 : decode cX12_findFars 185 = .ok (.iload_n 2, 1) := by decide +kernel
theorem dX12_findFars_186 : decode cX12_findFars 186 = .ok (.if_icmp .ge 63, 3) := by decide +kernel
theorem dX12_findFars_189 : decode cX12_findFars 189 = .ok (.aload_n 0, 1) := by decide +kernel
theorem dX12_findFars_190 : decode cX12_findFars 190 = .ok (.getfield 80, 3) := by decide +kernel
theorem dX12_findFars_193 : decode cX12_findFars 193 = .ok (.bipush 60, 2) := by decide +kernel
theorem dX12_findFars_195 : decode cX12_findFars 195 = .ok (.iload 4, 2) := by decide +kernel
theorem dX12_findFars_197 : decode cX12_findFars 197 = .ok (.imul, 1) := by decide +kernel
theorem dX12_findFars_198 : decode cX12_findFars 198 = .ok (.iload 5, 2) := by decide +kernel
theorem dX12_findFars_200 : decode cX12_findFars 200 = .ok (.iadd, 1) := by decide +kernel
theorem dX12_findFars_201 : decode cX12_findFars 201 = .ok (.aload_n 0, 1) := by decide +kernel
theorem dX12_findFars_202 : decode cX12_findFars 202 = .ok (.getfield 80, 3) := by decide +kernel
theorem dX12_findFars_205 : decode cX12_findFars 205 = .ok (.bipush 60, 2) := by decide +kernel
theorem dX12_findFars_207 : decode cX12_findFars 207 = .ok (.iload 4, 2) := by decide +kernel
theorem dX12_findFars_209 : decode cX12_findFars 209 = .ok (.imul, 1) := by decide +kernel
theorem dX12_findFars_210 : decode cX12_findFars 210 = .ok (.iload 5, 2) := by decide +kernel
theorem dX12_findFars_212 : decode cX12_findFars 212 = .ok (.iadd, 1) := by decide +kernel
theorem dX12_findFars_213 : decode cX12_findFars 213 = .ok (.iaload, 1) := by decide +kernel
theorem dX12_findFars_214 : decode cX12_findFars 214 = .ok (.aload_n 0, 1) := by decide +kernel
theorem dX12_findFars_215 : decode cX12_findFars 215 = .ok (.getfield 80, 3) := by decide +kernel
theorem dX12_findFars_218 : decode cX12_findFars 218 = .ok (.bipush 60, 2) := by decide +kernel
theorem dX12_findFars_220 : decode cX12_findFars 220 = .ok (.iload 4, 2) := by decide +kernel
theorem dX12_findFars_222 : decode cX12_findFars 222 = .ok (.imul, 1) := by decide +kernel
theorem dX12_findFars_223 : decode cX12_findFars 223 = .ok (.iload_n 3, 1) := by decide +kernel
theorem dX12_findFars_224 : decode cX12_findFars 224 = .ok (.iadd, 1) := by decide +kernel
theorem dX12_findFars_225 : decode cX12_findFars 225 = .ok (.iaload, 1) := by decide +kernel
theorem dX12_findFars_226 : decode cX12_findFars 226 = .ok (.aload_n 0, 1) := by decide +kernel
theorem dX12_findFars_227 : decode cX12_findFars 227 = .ok (.getfield 80, 3) := by decide +kernel
theorem dX12_findFars_230 : decode cX12_findFars 230 = .ok (.bipush 60, 2) := by decide +kernel
theorem dX12_findFars_232 : decode cX12_findFars 232 = .ok (.iload_n 3, 1) := by decide +kernel
theorem dX12_findFars_233 : decode cX12_findFars 233 = .ok (.imul, 1) := by decide +kernel
theorem dX12_findFars_234 : decode cX12_findFars 234 = .ok (.iload 5, 2) := by decide +kernel
theorem dX12_findFars_236 : decode cX12_findFars 236 = .ok (.iadd, 1) := by decide +kernel
theorem dX12_findFars_237 : decode cX12_findFars 237 = .ok (.iaload, 1) := by decide +kernel
theorem dX12_findFars_238 : decode cX12_findFars 238 = .ok (.iadd, 1) := by decide +kernel
theorem dX12_findFars_239 : decode cX12_findFars 239 = .ok (.invokestatic 155, 3) := by decide +kernel
theorem dX12_findFars_242 : decode cX12_findFars 242 = .ok (.iastore, 1) := by decide +kernel
theorem dX12_findFars_243 : decode cX12_findFars 243 = .ok (.iinc 5 1, 3) := by decide +kernel
theorem dX12_findFars_246 : decode cX12_findFars 246 = .ok (.goto (-63), 3) := by decide +kernel
theorem dX12_findFars_249 : decode cX12_findFars 249 = .ok (.iinc 4 1, 3) := by decide +kernel
theorem dX12_findFars_252 : decode cX12_findFars 252 = .ok (.goto (-78), 3) := by decide +kernel
theorem dX12_findFars_255 : decode cX12_findFars 255 = .ok (.iinc 3 1, 3) := by decide +kernel
theorem dX12_findFars_258 : decode cX12_findFars 258 = .ok (.goto (-92), 3) := by decide +kernel
theorem dX12_findFars_261 : decode cX12_findFars 261 = .ok (.return_, 1) := by decide +kernel
theorem dX12_far_0 : decode cX12_far 0 = .ok (.aload_n 0, 1) := by decide +kernel
theorem dX12_far_1 : decode cX12_far 1 = .ok (.iload_n 1, 1) := by decide +kernel
theorem dX12_far_2 : decode cX12_far 2 = .ok (.iload_n 2, 1) := by decide +kernel
theorem dX12_far_3 : decode cX12_far 3 = .ok (.invokevirtual 307, 3) := by decide +kernel
theorem dX12_far_6 : decode cX12_far 6 = .ok (.ifCond .eq 12, 3) := by decide +kernel
theorem dX12_far_9 : decode cX12_far 9 = .ok (.aload_n 0, 1) := by decide +kernel
theorem dX12_far_10 : decode cX12_far 10 = .ok (.iload_n 1, 1) := by decide +kernel
theorem dX12_far_11 : decode cX12_far 11 = .ok (.iload_n 3, 1) := by decide +kernel
theorem dX12_far_12 : decode cX12_far 12 = .ok (.invokevirtual 307, 3) := by decide +kernel
theorem dX12_far_15 : decode cX12_far 15 = .ok (.ifCond .ne 5, 3) := by decide +kernel
theorem dX12_far_18 : decode cX12_far 18 = .ok (.iconst (-1), 1) := by decide +kernel
theorem dX12_far_19 : decode cX12_far 19 = .ok (.ireturn, 1) := by decide +kernel
theorem dX12_far_20 : decode cX12_far 20 = .ok (.aload_n 0, 1) := by decide +kernel
theorem dX12_far_21 : decode cX12_far 21 = .ok (.iload_n 1, 1) := by decide +kernel
theorem dX12_far_22 : decode cX12_far 22 = .ok (.invokevirtual 366, 3) := by decide +kernel
theorem dX12_far_25 : decode cX12_far 25 = .ok (.aload_n 0, 1) := by decide +kernel
theorem dX12_far_26 : decode cX12_far 26 = .ok (.getfield 80, 3) := by decide +kernel
theorem dX12_far_29 : decode cX12_far 29 = .ok (.bipush 60, 2) := by decide +kernel
theorem dX12_far_31 : decode cX12_far 31 = .ok (.iload_n 2, 1) := by decide +kernel
theorem dX12_far_32 : decode cX12_far 32 = .ok (.imul, 1) := by decide +kernel
theorem dX12_far_33 : decode cX12_far 33 = .ok (.iload_n 3, 1) := by decide +kernel
theorem dX12_far_34 : decode cX12_far 34 = .ok (.iadd, 1) := by decide +kernel
theorem dX12_far_35 : decode cX12_far 35 = .ok (.iaload, 1) := by decide +kernel
theorem dX12_far_36 : decode cX12_far 36 = .ok (.istore 4, 2) := by decide +kernel
theorem dX12_far_38 : decode cX12_far 38 = .ok (.iload 4, 2) := by decide +kernel
theorem dX12_far_40 : decode cX12_far 40 = .ok (.ldc_w 365, 3) := by decide +kernel
theorem dX12_far_43 : decode cX12_far 43 = .ok (.if_icmp .ge 8, 3) := by decide +kernel
theorem dX12_far_46 : decode cX12_far 46 = .ok (.iload 4, 2) := by decide +kernel
theorem dX12_far_48 : decode cX12_far 48 = .ok (.goto 4, 3) := by decide +kernel
theorem dX12_far_51 : decode cX12_far 51 = .ok (.iconst (-1), 1) := by decide +kernel
theorem dX12_far_52 : decode cX12_far 52 = .ok (.ireturn, 1) := by decide +kernel
theorem dX12_span_0 : decode cX12_span 0 = .ok (.aload_n 0, 1) := by decide +kernel
theorem dX12_span_1 : decode cX12_span 1 = .ok (.iload_n 1, 1) := by decide +kernel
theorem dX12_span_2 : decode cX12_span 2 = .ok (.invokevirtual 284, 3) := by decide +kernel
theorem dX12_span_5 : decode cX12_span 5 = .ok (.ifCond .ne 5, 3) := by decide +kernel
theorem dX12_span_8 : decode cX12_span 8 = .ok (.iconst (-1), 1) := by decide +kernel
theorem dX12_span_9 : decode cX12_span 9 = .ok (.ireturn, 1) := by decide +kernel
theorem dX12_span_10 : decode cX12_span 10 = .ok (.aload_n 0, 1) := by decide +kernel
theorem dX12_span_11 : decode cX12_span 11 = .ok (.iload_n 1, 1) := by decide +kernel
theorem dX12_span_12 : decode cX12_span 12 = .ok (.invokevirtual 366, 3) := by decide +kernel
theorem dX12_span_15 : decode cX12_span 15 = .ok (.iconst 0, 1) := by decide +kernel
theorem dX12_span_16 : decode cX12_span 16 = .ok (.istore_n 2, 1) := by decide +kernel
theorem dX12_span_17 : decode cX12_span 17 = .ok (.iconst 0, 1) := by decide +kernel
theorem dX12_span_18 : decode cX12_span 18 = .ok (.istore_n 3, 1) := by decide +kernel
theorem dX12_span_19 : decode cX12_span 19 = .ok (.iload_n 3, 1) := by decide +kernel
theorem dX12_span_20 : decode cX12_span 20 = .ok (.aload_n 0, 1) := by decide +kernel
theorem dX12_span_21 : decode cX12_span 21 = .ok (.getfield 34, 3) := by decide +kernel
theorem dX12_span_24 : decode cX12_span 24 = .ok (.iload_n 1, 1) := by decide +kernel
theorem dX12_span_25 : decode cX12_span 25 = .ok (.iaload, 1) := by decide +kernel
theorem dX12_span_26 : decode cX12_span 26 = .ok (.if_icmp .ge 68, 3) := by decide +kernel
theorem dX12_span_29 : decode cX12_span 29 = .ok (.iconst 0, 1) := by decide +kernel
theorem dX12_span_30 : decode cX12_span 30 = .ok (.istore 4, 2) := by decide +kernel
theorem dX12_span_32 : decode cX12_span 32 = .ok (.iload 4, 2) := by decide +kernel
theorem dX12_span_34 : decode cX12_span 34 = .ok (.aload_n 0, 1) := by decide +kernel
theorem dX12_span_35 : decode cX12_span 35 = .ok (.getfield 34, 3) := by decide +kernel
theorem dX12_span_38 : decode cX12_span 38 = .ok (.iload_n 1, 1) := by decide +kernel
theorem dX12_span_39 : decode cX12_span 39 = .ok (.iaload, 1) := by decide +kernel
theorem dX12_span_40 : decode cX12_span 40 = .ok (.if_icmp .ge 48, 3) := by decide +kernel
theorem dX12_span_43 : decode cX12_span 43 = .ok (.aload_n 0, 1) := by decide +kernel
theorem dX12_span_44 : decode cX12_span 44 = .ok (.getfield 80, 3) := by decide +kernel
theorem dX12_span_47 : decode cX12_span 47 = .ok (.bipush 60, 2) := by decide +kernel
theorem dX12_span_49 : decode cX12_span 49 = .ok (.iload_n 3, 1) := by decide +kernel
theorem dX12_span_50 : decode cX12_span 50 = .ok (.imul, 1) := by decide +kernel
theorem dX12_span_51 : decode cX12_span 51 = .ok (.iload 4, 2) := by decide +kernel
theorem dX12_span_53 : decode cX12_span 53 = .ok (.iadd, 1) := by decide +kernel
theorem dX12_span_54 : decode cX12_span 54 = .ok (.iaload, 1) := by decide +kernel
theorem dX12_span_55 : decode cX12_span 55 = .ok (.ldc_w 365, 3) := by decide +kernel
theorem dX12_span_58 : decode cX12_span 58 = .ok (.if_icmp .ge 22, 3) := by decide +kernel
theorem dX12_span_61 : decode cX12_span 61 = .ok (.iload_n 2, 1) := by decide +kernel
theorem dX12_span_62 : decode cX12_span 62 = .ok (.aload_n 0, 1) := by decide +kernel
theorem dX12_span_63 : decode cX12_span 63 = .ok (.getfield 80, 3) := by decide +kernel
theorem dX12_span_66 : decode cX12_span 66 = .ok (.bipush 60, 2) := by decide +kernel
theorem dX12_span_68 : decode cX12_span 68 = .ok (.iload_n 3, 1) := by decide +kernel
theorem dX12_span_69 : decode cX12_span 69 = .ok (.imul, 1) := by decide +kernel
theorem dX12_span_70 : decode cX12_span 70 = .ok (.iload 4, 2) := by decide +kernel
theorem dX12_span_72 : decode cX12_span 72 = .ok (.iadd, 1) := by decide +kernel
theorem dX12_span_73 : decode cX12_span 73 = .ok (.iaload, 1) := by decide +kernel
theorem dX12_span_74 : decode cX12_span 74 = .ok (.invokestatic 149, 3) := by decide +kernel
theorem dX12_span_77 : decode cX12_span 77 = .ok (.goto 4, 3) := by decide +kernel
theorem dX12_span_80 : decode cX12_span 80 = .ok (.iload_n 2, 1) := by decide +kernel
theorem dX12_span_81 : decode cX12_span 81 = .ok (.istore_n 2, 1) := by decide +kernel
theorem dX12_span_82 : decode cX12_span 82 = .ok (.iinc 4 1, 3) := by decide +kernel
theorem dX12_span_85 : decode cX12_span 85 = .ok (.goto (-53), 3) := by decide +kernel
theorem dX12_span_88 : decode cX12_span 88 = .ok (.iinc 3 1, 3) := by decide +kernel
theorem dX12_span_91 : decode cX12_span 91 = .ok (.goto (-72), 3) := by decide +kernel
theorem dX12_span_94 : decode cX12_span 94 = .ok (.iload_n 2, 1) := by decide +kernel
theorem dX12_span_95 : decode cX12_span 95 = .ok (.ireturn, 1) := by decide +kernel
theorem dX12_firstPart_0 : decode cX12_firstPart 0 = .ok (.iload_n 2, 1) := by decide +kernel
theorem dX12_firstPart_1 : decode cX12_firstPart 1 = .ok (.iload_n 2, 1) := by decide +kernel
theorem dX12_firstPart_2 : decode cX12_firstPart 2 = .ok (.ineg, 1) := by decide +kernel
theorem dX12_firstPart_3 : decode cX12_firstPart 3 = .ok (.iand, 1) := by decide +kernel
theorem dX12_firstPart_4 : decode cX12_firstPart 4 = .ok (.istore_n 3, 1) := by decide +kernel
theorem dX12_firstPart_5 : decode cX12_firstPart 5 = .ok (.iconst 0, 1) := by decide +kernel
theorem dX12_firstPart_6 : decode cX12_firstPart 6 = .ok (.istore 4, 2) := by decide +kernel
theorem dX12_firstPart_8 : decode cX12_firstPart 8 = .ok (.iload 4, 2) := by decide +kernel
theorem dX12_firstPart_10 : decode cX12_firstPart 10 = .ok (.iload_n 3, 1) := by decide +kernel
theorem dX12_firstPart_11 : decode cX12_firstPart 11 = .ok (.if_icmp .eq 61, 3) := by decide +kernel
theorem dX12_firstPart_14 : decode cX12_firstPart 14 = .ok (.iload_n 3, 1) := by decide +kernel
theorem dX12_firstPart_15 : decode cX12_firstPart 15 = .ok (.istore 4, 2) := by decide +kernel
theorem dX12_firstPart_17 : decode cX12_firstPart 17 = .ok (.iconst 0, 1) := by decide +kernel
theorem dX12_firstPart_18 : decode cX12_firstPart 18 = .ok (.istore 5, 2) := by decide +kernel
theorem dX12_firstPart_20 : decode cX12_firstPart 20 = .ok (.iload 5, 2) := by decide +kernel
theorem dX12_firstPart_22 : decode cX12_firstPart 22 = .ok (.aload_n 0, 1) := by decide +kernel
theorem dX12_firstPart_23 : decode cX12_firstPart 23 = .ok (.getfield 31, 3) := by decide +kernel
theorem dX12_firstPart_26 : decode cX12_firstPart 26 = .ok (.iload_n 1, 1) := by decide +kernel
theorem dX12_firstPart_27 : decode cX12_firstPart 27 = .ok (.iaload, 1) := by decide +kernel
theorem dX12_firstPart_28 : decode cX12_firstPart 28 = .ok (.if_icmp .ge 41, 3) := by decide +kernel
theorem dX12_firstPart_31 : decode cX12_firstPart 31 = .ok (.iload_n 3, 1) := by decide +kernel
theorem dX12_firstPart_32 : decode cX12_firstPart 32 = .ok (.iload_n 2, 1) := by decide +kernel
theorem dX12_firstPart_33 : decode cX12_firstPart 33 = .ok (.iload 5, 2) := by decide +kernel
theorem dX12_firstPart_35 : decode cX12_firstPart 35 = .ok (.ishr, 1) := by decide +kernel
theorem dX12_firstPart_36 : decode cX12_firstPart 36 = .ok (.iconst 1, 1) := by decide +kernel
theorem dX12_firstPart_37 : decode cX12_firstPart 37 = .ok (.iand, 1) := by decide +kernel
theorem dX12_firstPart_38 : decode cX12_firstPart 38 = .ok (.iconst 1, 1) := by decide +kernel
theorem dX12_firstPart_39 : decode cX12_firstPart 39 = .ok (.if_icmp .ne 21, 3) := by decide +kernel
theorem dX12_firstPart_42 : decode cX12_firstPart 42 = .ok (.aload_n 0, 1) := by decide +kernel
theorem dX12_firstPart_43 : decode cX12_firstPart 43 = .ok (.iload_n 1, 1) := by decide +kernel
theorem dX12_firstPart_44 : decode cX12_firstPart 44 = .ok (.iload 5, 2) := by decide +kernel
theorem dX12_firstPart_46 : decode cX12_firstPart 46 = .ok (.iload_n 3, 1) := by decide +kernel
theorem dX12_firstPart_47 : decode cX12_firstPart 47 = .ok (.invokevirtual 330, 3) := by decide +kernel
theorem dX12_firstPart_50 : decode cX12_firstPart 50 = .ok (.ifCond .eq 10, 3) := by decide +kernel
theorem dX12_firstPart_53 : decode cX12_firstPart 53 = .ok (.iconst 1, 1) := by decide +kernel
theorem dX12_firstPart_54 : decode cX12_firstPart 54 = .ok (.iload 5, 2) := by decide +kernel
theorem dX12_firstPart_56 : decode cX12_firstPart 56 = .ok (.ishl, 1) := by decide +kernel
theorem dX12_firstPart_57 : decode cX12_firstPart 57 = .ok (.goto 4, 3) := by decide +kernel
theorem dX12_firstPart_60 : decode cX12_firstPart 60 = .ok (.iconst 0, 1) := by decide +kernel
theorem dX12_firstPart_61 : decode cX12_firstPart 61 = .ok (.ior, 1) := by decide +kernel
theorem dX12_firstPart_62 : decode cX12_firstPart 62 = .ok (.istore_n 3, 1) := by decide +kernel
theorem dX12_firstPart_63 : decode cX12_firstPart 63 = .ok (.iinc 5 1, 3) := by decide +kernel
theorem dX12_firstPart_66 : decode cX12_firstPart 66 = .ok (.goto (-46), 3) := by decide +kernel
theorem dX12_firstPart_69 : decode cX12_firstPart 69 = .ok (.goto (-61), 3) := by decide +kernel
theorem dX12_firstPart_72 : decode cX12_firstPart 72 = .ok (.iload_n 3, 1) := by decide +kernel
theorem dX12_firstPart_73 : decode cX12_firstPart 73 = .ok (.ireturn, 1) := by decide +kernel
theorem dX12_strokes_0 : decode cX12_strokes 0 = .ok (.aload_n 0, 1) := by decide +kernel
theorem dX12_strokes_1 : decode cX12_strokes 1 = .ok (.iload_n 1, 1) := by decide +kernel
theorem dX12_strokes_2 : decode cX12_strokes 2 = .ok (.invokevirtual 284, 3) := by decide +kernel
theorem dX12_strokes_5 : decode cX12_strokes 5 = .ok (.ifCond .ne 5, 3) := by decide +kernel
theorem dX12_strokes_8 : decode cX12_strokes 8 = .ok (.iconst (-1), 1) := by decide +kernel
theorem dX12_strokes_9 : decode cX12_strokes 9 = .ok (.ireturn, 1) := by decide +kernel
theorem dX12_strokes_10 : decode cX12_strokes 10 = .ok (.aload_n 0, 1) := by decide +kernel
theorem dX12_strokes_11 : decode cX12_strokes 11 = .ok (.iload_n 1, 1) := by decide +kernel
theorem dX12_strokes_12 : decode cX12_strokes 12 = .ok (.invokevirtual 287, 3) := by decide +kernel
theorem dX12_strokes_15 : decode cX12_strokes 15 = .ok (.istore_n 2, 1) := by decide +kernel
theorem dX12_strokes_16 : decode cX12_strokes 16 = .ok (.iconst 0, 1) := by decide +kernel
theorem dX12_strokes_17 : decode cX12_strokes 17 = .ok (.istore_n 3, 1) := by decide +kernel
theorem dX12_strokes_18 : decode cX12_strokes 18 = .ok (.iload_n 2, 1) := by decide +kernel
theorem dX12_strokes_19 : decode cX12_strokes 19 = .ok (.ifCond .eq 37, 3) := by decide +kernel
theorem dX12_strokes_22 : decode cX12_strokes 22 = .ok (.aload_n 0, 1) := by decide +kernel
theorem dX12_strokes_23 : decode cX12_strokes 23 = .ok (.iload_n 1, 1) := by decide +kernel
theorem dX12_strokes_24 : decode cX12_strokes 24 = .ok (.iload_n 2, 1) := by decide +kernel
theorem dX12_strokes_25 : decode cX12_strokes 25 = .ok (.invokevirtual 369, 3) := by decide +kernel
theorem dX12_strokes_28 : decode cX12_strokes 28 = .ok (.istore 4, 2) := by decide +kernel
theorem dX12_strokes_30 : decode cX12_strokes 30 = .ok (.iload_n 3, 1) := by decide +kernel
theorem dX12_strokes_31 : decode cX12_strokes 31 = .ok (.iconst 1, 1) := by decide +kernel
theorem dX12_strokes_32 : decode cX12_strokes 32 = .ok (.aload_n 0, 1) := by decide +kernel
theorem dX12_strokes_33 : decode cX12_strokes 33 = .ok (.iload_n 1, 1) := by decide +kernel
theorem dX12_strokes_34 : decode cX12_strokes 34 = .ok (.iload 4, 2) := by decide +kernel
theorem dX12_strokes_36 : decode cX12_strokes 36 = .ok (.invokevirtual 301, 3) := by decide +kernel
theorem dX12_strokes_39 : decode cX12_strokes 39 = .ok (.iconst 2, 1) := by decide +kernel
theorem dX12_strokes_40 : decode cX12_strokes 40 = .ok (.idiv, 1) := by decide +kernel
theorem dX12_strokes_41 : decode cX12_strokes 41 = .ok (.invokestatic 149, 3) := by decide +kernel
theorem dX12_strokes_44 : decode cX12_strokes 44 = .ok (.iadd, 1) := by decide +kernel
theorem dX12_strokes_45 : decode cX12_strokes 45 = .ok (.istore_n 3, 1) := by decide +kernel
theorem dX12_strokes_46 : decode cX12_strokes 46 = .ok (.iload_n 2, 1) := by decide +kernel
theorem dX12_strokes_47 : decode cX12_strokes 47 = .ok (.iload 4, 2) := by decide +kernel
theorem dX12_strokes_49 : decode cX12_strokes 49 = .ok (.iconst (-1), 1) := by decide +kernel
theorem dX12_strokes_50 : decode cX12_strokes 50 = .ok (.ixor, 1) := by decide +kernel
theorem dX12_strokes_51 : decode cX12_strokes 51 = .ok (.iand, 1) := by decide +kernel
theorem dX12_strokes_52 : decode cX12_strokes 52 = .ok (.istore_n 2, 1) := by decide +kernel
theorem dX12_strokes_53 : decode cX12_strokes 53 = .ok (.goto (-35), 3) := by decide +kernel
theorem dX12_strokes_56 : decode cX12_strokes 56 = .ok (.iload_n 3, 1) := by decide +kernel
theorem dX12_strokes_57 : decode cX12_strokes 57 = .ok (.ireturn, 1) := by decide +kernel
theorem dX12_isOneWay_0 : decode cX12_isOneWay 0 = .ok (.aload_n 0, 1) := by decide +kernel
theorem dX12_isOneWay_1 : decode cX12_isOneWay 1 = .ok (.getfield 13, 3) := by decide +kernel
theorem dX12_isOneWay_4 : decode cX12_isOneWay 4 = .ok (.iload_n 2, 1) := by decide +kernel
theorem dX12_isOneWay_5 : decode cX12_isOneWay 5 = .ok (.iaload, 1) := by decide +kernel
theorem dX12_isOneWay_6 : decode cX12_isOneWay 6 = .ok (.iload_n 3, 1) := by decide +kernel
theorem dX12_isOneWay_7 : decode cX12_isOneWay 7 = .ok (.invokestatic 336, 3) := by decide +kernel
theorem dX12_isOneWay_10 : decode cX12_isOneWay 10 = .ok (.iconst 1, 1) := by decide +kernel
theorem dX12_isOneWay_11 : decode cX12_isOneWay 11 = .ok (.isub, 1) := by decide +kernel
theorem dX12_isOneWay_12 : decode cX12_isOneWay 12 = .ok (.imul, 1) := by decide +kernel
theorem dX12_isOneWay_13 : decode cX12_isOneWay 13 = .ok (.istore 4, 2) := by decide +kernel
theorem dX12_isOneWay_15 : decode cX12_isOneWay 15 = .ok (.iconst 0, 1) := by decide +kernel
theorem dX12_isOneWay_16 : decode cX12_isOneWay 16 = .ok (.istore 5, 2) := by decide +kernel
theorem dX12_isOneWay_18 : decode cX12_isOneWay 18 = .ok (.iload 5, 2) := by decide +kernel
theorem dX12_isOneWay_20 : decode cX12_isOneWay 20 = .ok (.aload_n 0, 1) := by decide +kernel
theorem dX12_isOneWay_21 : decode cX12_isOneWay 21 = .ok (.getfield 31, 3) := by decide +kernel
theorem dX12_isOneWay_24 : decode cX12_isOneWay 24 = .ok (.iload_n 1, 1) := by decide +kernel
theorem dX12_isOneWay_25 : decode cX12_isOneWay 25 = .ok (.iaload, 1) := by decide +kernel
theorem dX12_isOneWay_26 : decode cX12_isOneWay 26 = .ok (.if_icmp .ge 40, 3) := by decide +kernel
theorem dX12_isOneWay_29 : decode cX12_isOneWay 29 = .ok (.iload 4, 2) := by decide +kernel
theorem dX12_isOneWay_31 : decode cX12_isOneWay 31 = .ok (.iload_n 3, 1) := by decide +kernel
theorem dX12_isOneWay_32 : decode cX12_isOneWay 32 = .ok (.iload 5, 2) := by decide +kernel
theorem dX12_isOneWay_34 : decode cX12_isOneWay 34 = .ok (.ishr, 1) := by decide +kernel
theorem dX12_isOneWay_35 : decode cX12_isOneWay 35 = .ok (.iconst 1, 1) := by decide +kernel
theorem dX12_isOneWay_36 : decode cX12_isOneWay 36 = .ok (.iand, 1) := by decide +kernel
theorem dX12_isOneWay_37 : decode cX12_isOneWay 37 = .ok (.iconst 1, 1) := by decide +kernel
theorem dX12_isOneWay_38 : decode cX12_isOneWay 38 = .ok (.if_icmp .ne 18, 3) := by decide +kernel
theorem dX12_isOneWay_41 : decode cX12_isOneWay 41 = .ok (.aload_n 0, 1) := by decide +kernel
theorem dX12_isOneWay_42 : decode cX12_isOneWay 42 = .ok (.getfield 37, 3) := by decide +kernel
theorem dX12_isOneWay_45 : decode cX12_isOneWay 45 = .ok (.bipush 24, 2) := by decide +kernel
theorem dX12_isOneWay_47 : decode cX12_isOneWay 47 = .ok (.iload_n 1, 1) := by decide +kernel
theorem dX12_isOneWay_48 : decode cX12_isOneWay 48 = .ok (.imul, 1) := by decide +kernel
theorem dX12_isOneWay_49 : decode cX12_isOneWay 49 = .ok (.iload 5, 2) := by decide +kernel
theorem dX12_isOneWay_51 : decode cX12_isOneWay 51 = .ok (.iadd, 1) := by decide +kernel
theorem dX12_isOneWay_52 : decode cX12_isOneWay 52 = .ok (.iaload, 1) := by decide +kernel
theorem dX12_isOneWay_53 : decode cX12_isOneWay 53 = .ok (.goto 4, 3) := by decide +kernel
theorem dX12_isOneWay_56 : decode cX12_isOneWay 56 = .ok (.iconst 0, 1) := by decide +kernel
theorem dX12_isOneWay_57 : decode cX12_isOneWay 57 = .ok (.iadd, 1) := by decide +kernel
theorem dX12_isOneWay_58 : decode cX12_isOneWay 58 = .ok (.istore 4, 2) := by decide +kernel
theorem dX12_isOneWay_60 : decode cX12_isOneWay 60 = .ok (.iinc 5 1, 3) := by decide +kernel
theorem dX12_isOneWay_63 : decode cX12_isOneWay 63 = .ok (.goto (-45), 3) := by decide +kernel
theorem dX12_isOneWay_66 : decode cX12_isOneWay 66 = .ok (.iload 4, 2) := by decide +kernel
theorem dX12_isOneWay_68 : decode cX12_isOneWay 68 = .ok (.aload_n 0, 1) := by decide +kernel
theorem dX12_isOneWay_69 : decode cX12_isOneWay 69 = .ok (.getfield 9, 3) := by decide +kernel
theorem dX12_isOneWay_72 : decode cX12_isOneWay 72 = .ok (.iload_n 2, 1) := by decide +kernel
theorem dX12_isOneWay_73 : decode cX12_isOneWay 73 = .ok (.iaload, 1) := by decide +kernel
theorem dX12_isOneWay_74 : decode cX12_isOneWay 74 = .ok (.if_icmp .gt 27, 3) := by decide +kernel
theorem dX12_isOneWay_77 : decode cX12_isOneWay 77 = .ok (.aload_n 0, 1) := by decide +kernel
theorem dX12_isOneWay_78 : decode cX12_isOneWay 78 = .ok (.iload_n 1, 1) := by decide +kernel
theorem dX12_isOneWay_79 : decode cX12_isOneWay 79 = .ok (.iload_n 3, 1) := by decide +kernel
theorem dX12_isOneWay_80 : decode cX12_isOneWay 80 = .ok (.invokevirtual 369, 3) := by decide +kernel
theorem dX12_isOneWay_83 : decode cX12_isOneWay 83 = .ok (.iload_n 3, 1) := by decide +kernel
theorem dX12_isOneWay_84 : decode cX12_isOneWay 84 = .ok (.if_icmp .ne 17, 3) := by decide +kernel
theorem dX12_isOneWay_87 : decode cX12_isOneWay 87 = .ok (.aload_n 0, 1) := by decide +kernel
theorem dX12_isOneWay_88 : decode cX12_isOneWay 88 = .ok (.iload_n 1, 1) := by decide +kernel
theorem dX12_isOneWay_89 : decode cX12_isOneWay 89 = .ok (.iload_n 3, 1) := by decide +kernel
theorem dX12_isOneWay_90 : decode cX12_isOneWay 90 = .ok (.invokevirtual 301, 3) := by decide +kernel
theorem dX12_isOneWay_93 : decode cX12_isOneWay 93 = .ok (.iconst 2, 1) := by decide +kernel
theorem dX12_isOneWay_94 : decode cX12_isOneWay 94 = .ok (.if_icmp .gt 7, 3) := by decide +kernel
theorem dX12_isOneWay_97 : decode cX12_isOneWay 97 = .ok (.iconst 1, 1) := by decide +kernel
theorem dX12_isOneWay_98 : decode cX12_isOneWay 98 = .ok (.goto 4, 3) := by decide +kernel
theorem dX12_isOneWay_101 : decode cX12_isOneWay 101 = .ok (.iconst 0, 1) := by decide +kernel
theorem dX12_isOneWay_102 : decode cX12_isOneWay 102 = .ok (.ireturn, 1) := by decide +kernel
theorem dX12_findFewest_0 : decode cX12_findFewest 0 = .ok (.aload_n 0, 1) := by decide +kernel
theorem dX12_findFewest_1 : decode cX12_findFewest 1 = .ok (.iload_n 1, 1) := by decide +kernel
theorem dX12_findFewest_2 : decode cX12_findFewest 2 = .ok (.invokevirtual 287, 3) := by decide +kernel
theorem dX12_findFewest_5 : decode cX12_findFewest 5 = .ok (.istore_n 3, 1) := by decide +kernel
theorem dX12_findFewest_6 : decode cX12_findFewest 6 = .ok (.aload_n 0, 1) := by decide +kernel
theorem dX12_findFewest_7 : decode cX12_findFewest 7 = .ok (.getfield 83, 3) := by decide +kernel
theorem dX12_findFewest_10 : decode cX12_findFewest 10 = .ok (.iconst 0, 1) := by decide +kernel
theorem dX12_findFewest_11 : decode cX12_findFewest 11 = .ok (.iconst 0, 1) := by decide +kernel
theorem dX12_findFewest_12 : decode cX12_findFewest 12 = .ok (.iastore, 1) := by decide +kernel
theorem dX12_findFewest_13 : decode cX12_findFewest 13 = .ok (.iconst 1, 1) := by decide +kernel
theorem dX12_findFewest_14 : decode cX12_findFewest 14 = .ok (.istore 4, 2) := by decide +kernel
theorem dX12_findFewest_16 : decode cX12_findFewest 16 = .ok (.iload 4, 2) := by decide +kernel
theorem dX12_findFewest_18 : decode cX12_findFewest 18 = .ok (.iload_n 3, 1) := by decide +kernel
theorem dX12_findFewest_19 : decode cX12_findFewest 19 = .ok (.if_icmp .gt 112, 3) := by decide +kernel
theorem dX12_findFewest_22 : decode cX12_findFewest 22 = .ok (.aload_n 0, 1) := by decide +kernel
theorem dX12_findFewest_23 : decode cX12_findFewest 23 = .ok (.getfield 86, 3) := by decide +kernel
theorem dX12_findFewest_26 : decode cX12_findFewest 26 = .ok (.iload 4, 2) := by decide +kernel
theorem dX12_findFewest_28 : decode cX12_findFewest 28 = .ok (.aload_n 0, 1) := by decide +kernel
theorem dX12_findFewest_29 : decode cX12_findFewest 29 = .ok (.iload_n 1, 1) := by decide +kernel
theorem dX12_findFewest_30 : decode cX12_findFewest 30 = .ok (.iload_n 2, 1) := by decide +kernel
theorem dX12_findFewest_31 : decode cX12_findFewest 31 = .ok (.iload 4, 2) := by decide +kernel
theorem dX12_findFewest_33 : decode cX12_findFewest 33 = .ok (.invokevirtual 372, 3) := by decide +kernel
theorem dX12_findFewest_36 : decode cX12_findFewest 36 = .ok (.bastore, 1) := by decide +kernel
theorem dX12_findFewest_37 : decode cX12_findFewest 37 = .ok (.aload_n 0, 1) := by decide +kernel
theorem dX12_findFewest_38 : decode cX12_findFewest 38 = .ok (.getfield 83, 3) := by decide +kernel
theorem dX12_findFewest_41 : decode cX12_findFewest 41 = .ok (.iload 4, 2) := by decide +kernel
theorem dX12_findFewest_43 : decode cX12_findFewest 43 = .ok (.ldc_w 365, 3) := by decide +kernel
theorem dX12_findFewest_46 : decode cX12_findFewest 46 = .ok (.iastore, 1) := by decide +kernel
theorem dX12_findFewest_47 : decode cX12_findFewest 47 = .ok (.iload 4, 2) := by decide +kernel
theorem dX12_findFewest_49 : decode cX12_findFewest 49 = .ok (.iload 4, 2) := by decide +kernel
theorem dX12_findFewest_51 : decode cX12_findFewest 51 = .ok (.ineg, 1) := by decide +kernel
theorem dX12_findFewest_52 : decode cX12_findFewest 52 = .ok (.iand, 1) := by decide +kernel
theorem dX12_findFewest_53 : decode cX12_findFewest 53 = .ok (.istore 5, 2) := by decide +kernel
theorem dX12_findFewest_55 : decode cX12_findFewest 55 = .ok (.iload 4, 2) := by decide +kernel
theorem dX12_findFewest_57 : decode cX12_findFewest 57 = .ok (.istore 6, 2) := by decide +kernel
theorem dX12_findFewest_59 : decode cX12_findFewest 59 = .ok (.iload 6, 2) := by decide +kernel
theorem dX12_findFewest_61 : decode cX12_findFewest 61 = .ok (.ifCond .le 64, 3) := by decide +kernel
theorem dX12_findFewest_64 : decode cX12_findFewest 64 = .ok (.iload 6, 2) := by decide +kernel
theorem dX12_findFewest_66 : decode cX12_findFewest 66 = .ok (.iload 5, 2) := by decide +kernel
theorem dX12_findFewest_68 : decode cX12_findFewest 68 = .ok (.iand, 1) := by decide +kernel
theorem dX12_findFewest_69 : decode cX12_findFewest 69 = .ok (.ifCond .eq 44, 3) := by decide +kernel
theorem dX12_findFewest_72 : decode cX12_findFewest 72 = .ok (.aload_n 0, 1) := by decide +kernel
theorem dX12_findFewest_73 : decode cX12_findFewest 73 = .ok (.getfield 86, 3) := by decide +kernel
theorem dX12_findFewest_76 : decode cX12_findFewest 76 = .ok (.iload 6, 2) := by decide +kernel
theorem dX12_findFewest_78 : decode cX12_findFewest 78 = .ok (.baload, 1) := by decide +kernel
theorem dX12_findFewest_79 : decode cX12_findFewest 79 = .ok (.ifCond .eq 34, 3) := by decide +kernel
theorem dX12_findFewest_82 : decode cX12_findFewest 82 = .ok (.aload_n 0, 1) := by decide +kernel
theorem dX12_findFewest_83 : decode cX12_findFewest 83 = .ok (.getfield 83, 3) := by decide +kernel
theorem dX12_findFewest_86 : decode cX12_findFewest 86 = .ok (.iload 4, 2) := by decide +kernel
theorem dX12_findFewest_88 : decode cX12_findFewest 88 = .ok (.aload_n 0, 1) := by decide +kernel
theorem dX12_findFewest_89 : decode cX12_findFewest 89 = .ok (.getfield 83, 3) := by decide +kernel
theorem dX12_findFewest_92 : decode cX12_findFewest 92 = .ok (.iload 4, 2) := by decide +kernel
theorem dX12_findFewest_94 : decode cX12_findFewest 94 = .ok (.iaload, 1) := by decide +kernel
theorem dX12_findFewest_95 : decode cX12_findFewest 95 = .ok (.iconst 1, 1) := by decide +kernel
theorem dX12_findFewest_96 : decode cX12_findFewest 96 = .ok (.aload_n 0, 1) := by decide +kernel
theorem dX12_findFewest_97 : decode cX12_findFewest 97 = .ok (.getfield 83, 3) := by decide +kernel
theorem dX12_findFewest_100 : decode cX12_findFewest 100 = .ok (.iload 4, 2) := by decide +kernel
theorem dX12_findFewest_102 : decode cX12_findFewest 102 = .ok (.iload 6, 2) := by decide +kernel
theorem dX12_findFewest_104 : decode cX12_findFewest 104 = .ok (.iconst (-1), 1) := by decide +kernel
theorem dX12_findFewest_105 : decode cX12_findFewest 105 = .ok (.ixor, 1) := by decide +kernel
theorem dX12_findFewest_106 : decode cX12_findFewest 106 = .ok (.iand, 1) := by decide +kernel
theorem dX12_findFewest_107 : decode cX12_findFewest 107 = .ok (.iaload, 1) := by decide +kernel
theorem dX12_findFewest_108 : decode cX12_findFewest 108 = .ok (.iadd, 1) := by decide +kernel
theorem dX12_findFewest_109 : decode cX12_findFewest 109 = .ok (.invokestatic 155, 3) := by decide +kernel
theorem dX12_findFewest_112 : decode cX12_findFewest 112 = .ok (.iastore, 1) := by decide +kernel
theorem dX12_findFewest_113 : decode cX12_findFewest 113 = .ok (.iload 6, 2) := by decide +kernel
theorem dX12_findFewest_115 : decode cX12_findFewest 115 = .ok (.iconst 1, 1) := by decide +kernel
theorem dX12_findFewest_116 : decode cX12_findFewest 116 = .ok (.isub, 1) := by decide +kernel
theorem dX12_findFewest_117 : decode cX12_findFewest 117 = .ok (.iload 4, 2) := by decide +kernel
theorem dX12_findFewest_119 : decode cX12_findFewest 119 = .ok (.iand, 1) := by decide +kernel
theorem dX12_findFewest_120 : decode cX12_findFewest 120 = .ok (.istore 6, 2) := by decide +kernel
theorem dX12_findFewest_122 : decode cX12_findFewest 122 = .ok (.goto (-63), 3) := by decide +kernel
theorem dX12_findFewest_125 : decode cX12_findFewest 125 = .ok (.iinc 4 1, 3) := by decide +kernel
theorem dX12_findFewest_128 : decode cX12_findFewest 128 = .ok (.goto (-112), 3) := by decide +kernel
theorem dX12_findFewest_131 : decode cX12_findFewest 131 = .ok (.return_, 1) := by decide +kernel
theorem dX12_mayBeMade_0 : decode cX12_mayBeMade 0 = .ok (.aload_n 0, 1) := by decide +kernel
theorem dX12_mayBeMade_1 : decode cX12_mayBeMade 1 = .ok (.iload_n 1, 1) := by decide +kernel
theorem dX12_mayBeMade_2 : decode cX12_mayBeMade 2 = .ok (.invokevirtual 284, 3) := by decide +kernel
theorem dX12_mayBeMade_5 : decode cX12_mayBeMade 5 = .ok (.ifCond .eq 22, 3) := by decide +kernel
theorem dX12_mayBeMade_8 : decode cX12_mayBeMade 8 = .ok (.aload_n 0, 1) := by decide +kernel
theorem dX12_mayBeMade_9 : decode cX12_mayBeMade 9 = .ok (.iload_n 2, 1) := by decide +kernel
theorem dX12_mayBeMade_10 : decode cX12_mayBeMade 10 = .ok (.invokevirtual 375, 3) := by decide +kernel
theorem dX12_mayBeMade_13 : decode cX12_mayBeMade 13 = .ok (.ifCond .eq 14, 3) := by decide +kernel
theorem dX12_mayBeMade_16 : decode cX12_mayBeMade 16 = .ok (.aload_n 0, 1) := by decide +kernel
theorem dX12_mayBeMade_17 : decode cX12_mayBeMade 17 = .ok (.getfield 31, 3) := by decide +kernel
theorem dX12_mayBeMade_20 : decode cX12_mayBeMade 20 = .ok (.iload_n 1, 1) := by decide +kernel
theorem dX12_mayBeMade_21 : decode cX12_mayBeMade 21 = .ok (.iaload, 1) := by decide +kernel
theorem dX12_mayBeMade_22 : decode cX12_mayBeMade 22 = .ok (.bipush 10, 2) := by decide +kernel
theorem dX12_mayBeMade_24 : decode cX12_mayBeMade 24 = .ok (.if_icmp .le 5, 3) := by decide +kernel
theorem dX12_mayBeMade_27 : decode cX12_mayBeMade 27 = .ok (.iconst 0, 1) := by decide +kernel
theorem dX12_mayBeMade_28 : decode cX12_mayBeMade 28 = .ok (.ireturn, 1) := by decide +kernel
theorem dX12_mayBeMade_29 : decode cX12_mayBeMade 29 = .ok (.aload_n 0, 1) := by decide +kernel
theorem dX12_mayBeMade_30 : decode cX12_mayBeMade 30 = .ok (.iload_n 1, 1) := by decide +kernel
theorem dX12_mayBeMade_31 : decode cX12_mayBeMade 31 = .ok (.iload_n 2, 1) := by decide +kernel
theorem dX12_mayBeMade_32 : decode cX12_mayBeMade 32 = .ok (.invokevirtual 378, 3) := by decide +kernel
theorem dX12_mayBeMade_35 : decode cX12_mayBeMade 35 = .ok (.aload_n 0, 1) := by decide +kernel
theorem dX12_mayBeMade_36 : decode cX12_mayBeMade 36 = .ok (.getfield 83, 3) := by decide +kernel
theorem dX12_mayBeMade_39 : decode cX12_mayBeMade 39 = .ok (.aload_n 0, 1) := by decide +kernel
theorem dX12_mayBeMade_40 : decode cX12_mayBeMade 40 = .ok (.iload_n 1, 1) := by decide +kernel
theorem dX12_mayBeMade_41 : decode cX12_mayBeMade 41 = .ok (.invokevirtual 287, 3) := by decide +kernel
theorem dX12_mayBeMade_44 : decode cX12_mayBeMade 44 = .ok (.iaload, 1) := by decide +kernel
theorem dX12_mayBeMade_45 : decode cX12_mayBeMade 45 = .ok (.ldc_w 365, 3) := by decide +kernel
theorem dX12_mayBeMade_48 : decode cX12_mayBeMade 48 = .ok (.if_icmp .ge 7, 3) := by decide +kernel
theorem dX12_mayBeMade_51 : decode cX12_mayBeMade 51 = .ok (.iconst 1, 1) := by decide +kernel
theorem dX12_mayBeMade_52 : decode cX12_mayBeMade 52 = .ok (.goto 4, 3) := by decide +kernel
theorem dX12_mayBeMade_55 : decode cX12_mayBeMade 55 = .ok (.iconst 0, 1) := by decide +kernel
theorem dX12_mayBeMade_56 : decode cX12_mayBeMade 56 = .ok (.ireturn, 1) := by decide +kernel
theorem dX12_made_0 : decode cX12_made 0 = .ok (.aload_n 0, 1) := by decide +kernel
theorem dX12_made_1 : decode cX12_made 1 = .ok (.iload_n 1, 1) := by decide +kernel
theorem dX12_made_2 : decode cX12_made 2 = .ok (.iload_n 2, 1) := by decide +kernel
theorem dX12_made_3 : decode cX12_made 3 = .ok (.invokevirtual 381, 3) := by decide +kernel
theorem dX12_made_6 : decode cX12_made 6 = .ok (.ifCond .eq 16, 3) := by decide +kernel
theorem dX12_made_9 : decode cX12_made 9 = .ok (.aload_n 0, 1) := by decide +kernel
theorem dX12_made_10 : decode cX12_made 10 = .ok (.getfield 83, 3) := by decide +kernel
theorem dX12_made_13 : decode cX12_made 13 = .ok (.aload_n 0, 1) := by decide +kernel
theorem dX12_made_14 : decode cX12_made 14 = .ok (.iload_n 1, 1) := by decide +kernel
theorem dX12_made_15 : decode cX12_made 15 = .ok (.invokevirtual 287, 3) := by decide +kernel
theorem dX12_made_18 : decode cX12_made 18 = .ok (.iaload, 1) := by decide +kernel
theorem dX12_made_19 : decode cX12_made 19 = .ok (.goto 4, 3) := by decide +kernel
theorem dX12_made_22 : decode cX12_made 22 = .ok (.iconst (-1), 1) := by decide +kernel
theorem dX12_made_23 : decode cX12_made 23 = .ok (.ireturn, 1) := by decide +kernel
theorem dX12_set_0 : decode cX12_set 0 = .ok (.aload_n 0, 1) := by decide +kernel
theorem dX12_set_1 : decode cX12_set 1 = .ok (.iload_n 1, 1) := by decide +kernel
theorem dX12_set_2 : decode cX12_set 2 = .ok (.iload_n 2, 1) := by decide +kernel
theorem dX12_set_3 : decode cX12_set 3 = .ok (.invokevirtual 381, 3) := by decide +kernel
theorem dX12_set_6 : decode cX12_set 6 = .ok (.ifCond .eq 23, 3) := by decide +kernel
theorem dX12_set_9 : decode cX12_set 9 = .ok (.iload_n 3, 1) := by decide +kernel
theorem dX12_set_10 : decode cX12_set 10 = .ok (.iconst 0, 1) := by decide +kernel
theorem dX12_set_11 : decode cX12_set 11 = .ok (.aload_n 0, 1) := by decide +kernel
theorem dX12_set_12 : decode cX12_set 12 = .ok (.getfield 83, 3) := by decide +kernel
theorem dX12_set_15 : decode cX12_set 15 = .ok (.aload_n 0, 1) := by decide +kernel
theorem dX12_set_16 : decode cX12_set 16 = .ok (.iload_n 1, 1) := by decide +kernel
theorem dX12_set_17 : decode cX12_set 17 = .ok (.invokevirtual 287, 3) := by decide +kernel
theorem dX12_set_20 : decode cX12_set 20 = .ok (.iaload, 1) := by decide +kernel
theorem dX12_set_21 : decode cX12_set 21 = .ok (.iconst 1, 1) := by decide +kernel
theorem dX12_set_22 : decode cX12_set 22 = .ok (.isub, 1) := by decide +kernel
theorem dX12_set_23 : decode cX12_set 23 = .ok (.invokestatic 121, 3) := by decide +kernel
theorem dX12_set_26 : decode cX12_set 26 = .ok (.ifCond .ne 5, 3) := by decide +kernel
theorem dX12_set_29 : decode cX12_set 29 = .ok (.iconst (-1), 1) := by decide +kernel
theorem dX12_set_30 : decode cX12_set 30 = .ok (.ireturn, 1) := by decide +kernel
theorem dX12_set_31 : decode cX12_set 31 = .ok (.aload_n 0, 1) := by decide +kernel
theorem dX12_set_32 : decode cX12_set 32 = .ok (.iload_n 1, 1) := by decide +kernel
theorem dX12_set_33 : decode cX12_set 33 = .ok (.invokevirtual 287, 3) := by decide +kernel
theorem dX12_set_36 : decode cX12_set 36 = .ok (.istore 4, 2) := by decide +kernel
theorem dX12_set_38 : decode cX12_set 38 = .ok (.iconst 0, 1) := by decide +kernel
theorem dX12_set_39 : decode cX12_set 39 = .ok (.istore 5, 2) := by decide +kernel
theorem dX12_set_41 : decode cX12_set 41 = .ok (.iload 5, 2) := by decide +kernel
theorem dX12_set_43 : decode cX12_set 43 = .ok (.iload_n 3, 1) := by decide +kernel
theorem dX12_set_44 : decode cX12_set 44 = .ok (.if_icmp .gt 97, 3) := by decide +kernel
theorem dX12_set_47 : decode cX12_set 47 = .ok (.iload 4, 2) := by decide +kernel
theorem dX12_set_49 : decode cX12_set 49 = .ok (.iload 4, 2) := by decide +kernel
theorem dX12_set_51 : decode cX12_set 51 = .ok (.ineg, 1) := by decide +kernel
theorem dX12_set_52 : decode cX12_set 52 = .ok (.iand, 1) := by decide +kernel
theorem dX12_set_53 : decode cX12_set 53 = .ok (.istore 6, 2) := by decide +kernel
theorem dX12_set_55 : decode cX12_set 55 = .ok (.iload 6, 2) := by decide +kernel
theorem dX12_set_57 : decode cX12_set 57 = .ok (.istore 7, 2) := by decide +kernel
theorem dX12_set_59 : decode cX12_set 59 = .ok (.iload 7, 2) := by decide +kernel
theorem dX12_set_61 : decode cX12_set 61 = .ok (.iload 4, 2) := by decide +kernel
theorem dX12_set_63 : decode cX12_set 63 = .ok (.iconst (-1), 1) := by decide +kernel
theorem dX12_set_64 : decode cX12_set 64 = .ok (.ixor, 1) := by decide +kernel
theorem dX12_set_65 : decode cX12_set 65 = .ok (.iand, 1) := by decide +kernel
theorem dX12_set_66 : decode cX12_set 66 = .ok (.ifCond .ne 45, 3) := by decide +kernel
theorem dX12_set_69 : decode cX12_set 69 = .ok (.iload 7, 2) := by decide +kernel
theorem dX12_set_71 : decode cX12_set 71 = .ok (.iload 6, 2) := by decide +kernel
theorem dX12_set_73 : decode cX12_set 73 = .ok (.iand, 1) := by decide +kernel
theorem dX12_set_74 : decode cX12_set 74 = .ok (.ifCond .eq 37, 3) := by decide +kernel
theorem dX12_set_77 : decode cX12_set 77 = .ok (.aload_n 0, 1) := by decide +kernel
theorem dX12_set_78 : decode cX12_set 78 = .ok (.getfield 86, 3) := by decide +kernel
theorem dX12_set_81 : decode cX12_set 81 = .ok (.iload 7, 2) := by decide +kernel
theorem dX12_set_83 : decode cX12_set 83 = .ok (.baload, 1) := by decide +kernel
theorem dX12_set_84 : decode cX12_set 84 = .ok (.ifCond .eq 27, 3) := by decide +kernel
theorem dX12_set_87 : decode cX12_set 87 = .ok (.iconst 1, 1) := by decide +kernel
theorem dX12_set_88 : decode cX12_set 88 = .ok (.aload_n 0, 1) := by decide +kernel
theorem dX12_set_89 : decode cX12_set 89 = .ok (.getfield 83, 3) := by decide +kernel
theorem dX12_set_92 : decode cX12_set 92 = .ok (.iload 4, 2) := by decide +kernel
theorem dX12_set_94 : decode cX12_set 94 = .ok (.iload 7, 2) := by decide +kernel
theorem dX12_set_96 : decode cX12_set 96 = .ok (.iconst (-1), 1) := by decide +kernel
theorem dX12_set_97 : decode cX12_set 97 = .ok (.ixor, 1) := by decide +kernel
theorem dX12_set_98 : decode cX12_set 98 = .ok (.iand, 1) := by decide +kernel
theorem dX12_set_99 : decode cX12_set 99 = .ok (.iaload, 1) := by decide +kernel
theorem dX12_set_100 : decode cX12_set 100 = .ok (.iadd, 1) := by decide +kernel
theorem dX12_set_101 : decode cX12_set 101 = .ok (.aload_n 0, 1) := by decide +kernel
theorem dX12_set_102 : decode cX12_set 102 = .ok (.getfield 83, 3) := by decide +kernel
theorem dX12_set_105 : decode cX12_set 105 = .ok (.iload 4, 2) := by decide +kernel
theorem dX12_set_107 : decode cX12_set 107 = .ok (.iaload, 1) := by decide +kernel
theorem dX12_set_108 : decode cX12_set 108 = .ok (.if_icmp .eq 9, 3) := by decide +kernel
theorem dX12_set_111 : decode cX12_set 111 = .ok (.iinc 7 1, 3) := by decide +kernel
theorem dX12_set_114 : decode cX12_set 114 = .ok (.goto (-55), 3) := by decide +kernel
theorem dX12_set_117 : decode cX12_set 117 = .ok (.iload 5, 2) := by decide +kernel
theorem dX12_set_119 : decode cX12_set 119 = .ok (.iload_n 3, 1) := by decide +kernel
theorem dX12_set_120 : decode cX12_set 120 = .ok (.if_icmp .ne 6, 3) := by decide +kernel
theorem dX12_set_123 : decode cX12_set 123 = .ok (.iload 7, 2) := by decide +kernel
theorem dX12_set_125 : decode cX12_set 125 = .ok (.ireturn, 1) := by decide +kernel
theorem dX12_set_126 : decode cX12_set 126 = .ok (.iload 4, 2) := by decide +kernel
theorem dX12_set_128 : decode cX12_set 128 = .ok (.iload 7, 2) := by decide +kernel
theorem dX12_set_130 : decode cX12_set 130 = .ok (.iconst (-1), 1) := by decide +kernel
theorem dX12_set_131 : decode cX12_set 131 = .ok (.ixor, 1) := by decide +kernel
theorem dX12_set_132 : decode cX12_set 132 = .ok (.iand, 1) := by decide +kernel
theorem dX12_set_133 : decode cX12_set 133 = .ok (.istore 4, 2) := by decide +kernel
theorem dX12_set_135 : decode cX12_set 135 = .ok (.iinc 5 1, 3) := by decide +kernel
theorem dX12_set_138 : decode cX12_set 138 = .ok (.goto (-97), 3) := by decide +kernel
theorem dX12_set_141 : decode cX12_set 141 = .ok (.iconst (-1), 1) := by decide +kernel
theorem dX12_set_142 : decode cX12_set 142 = .ok (.ireturn, 1) := by decide +kernel
theorem dX12_pairing_0 : decode cX12_pairing 0 = .ok (.iload_n 1, 1) := by decide +kernel
theorem dX12_pairing_1 : decode cX12_pairing 1 = .ok (.ifCond .ne 5, 3) := by decide +kernel
theorem dX12_pairing_4 : decode cX12_pairing 4 = .ok (.iconst 0, 1) := by decide +kernel
theorem dX12_pairing_5 : decode cX12_pairing 5 = .ok (.ireturn, 1) := by decide +kernel
theorem dX12_pairing_6 : decode cX12_pairing 6 = .ok (.iload_n 1, 1) := by decide +kernel
theorem dX12_pairing_7 : decode cX12_pairing 7 = .ok (.invokestatic 384, 3) := by decide +kernel
theorem dX12_pairing_10 : decode cX12_pairing 10 = .ok (.istore 4, 2) := by decide +kernel
theorem dX12_pairing_12 : decode cX12_pairing 12 = .ok (.iload_n 1, 1) := by decide +kernel
theorem dX12_pairing_13 : decode cX12_pairing 13 = .ok (.iconst 1, 1) := by decide +kernel
theorem dX12_pairing_14 : decode cX12_pairing 14 = .ok (.iload 4, 2) := by decide +kernel
theorem dX12_pairing_16 : decode cX12_pairing 16 = .ok (.ishl, 1) := by decide +kernel
theorem dX12_pairing_17 : decode cX12_pairing 17 = .ok (.iconst (-1), 1) := by decide +kernel
theorem dX12_pairing_18 : decode cX12_pairing 18 = .ok (.ixor, 1) := by decide +kernel
theorem dX12_pairing_19 : decode cX12_pairing 19 = .ok (.iand, 1) := by decide +kernel
theorem dX12_pairing_20 : decode cX12_pairing 20 = .ok (.istore 5, 2) := by decide +kernel
theorem dX12_pairing_22 : decode cX12_pairing 22 = .ok (.iload_n 3, 1) := by decide +kernel
theorem dX12_pairing_23 : decode cX12_pairing 23 = .ok (.ifCond .le 16, 3) := by decide +kernel
theorem dX12_pairing_26 : decode cX12_pairing 26 = .ok (.aload_n 0, 1) := by decide +kernel
theorem dX12_pairing_27 : decode cX12_pairing 27 = .ok (.iload 5, 2) := by decide +kernel
theorem dX12_pairing_29 : decode cX12_pairing 29 = .ok (.iload_n 2, 1) := by decide +kernel
theorem dX12_pairing_30 : decode cX12_pairing 30 = .ok (.iload_n 3, 1) := by decide +kernel
theorem dX12_pairing_31 : decode cX12_pairing 31 = .ok (.iconst 1, 1) := by decide +kernel
theorem dX12_pairing_32 : decode cX12_pairing 32 = .ok (.isub, 1) := by decide +kernel
theorem dX12_pairing_33 : decode cX12_pairing 33 = .ok (.invokevirtual 387, 3) := by decide +kernel
theorem dX12_pairing_36 : decode cX12_pairing 36 = .ok (.goto 6, 3) := by decide +kernel
theorem dX12_pairing_39 : decode cX12_pairing 39 = .ok (.ldc_w 365, 3) := by decide +kernel
theorem dX12_pairing_42 : decode cX12_pairing 42 = .ok (.istore 6, 2) := by decide +kernel
theorem dX12_pairing_44 : decode cX12_pairing 44 = .ok (.iload 4, 2) := by decide +kernel
theorem dX12_pairing_46 : decode cX12_pairing 46 = .ok (.iconst 1, 1) := by decide +kernel
theorem dX12_pairing_47 : decode cX12_pairing 47 = .ok (.iadd, 1) := by decide +kernel
theorem dX12_pairing_48 : decode cX12_pairing 48 = .ok (.istore 7, 2) := by decide +kernel
theorem dX12_pairing_50 : decode cX12_pairing 50 = .ok (.iload 7, 2) := by decide +kernel
theorem dX12_pairing_52 : decode cX12_pairing 52 = .ok (.iload_n 2, 1) := by decide +kernel
theorem dX12_pairing_53 : decode cX12_pairing 53 = .ok (.if_icmp .ge 66, 3) := by decide +kernel
theorem dX12_pairing_56 : decode cX12_pairing 56 = .ok (.iload 5, 2) := by decide +kernel
theorem dX12_pairing_58 : decode cX12_pairing 58 = .ok (.iload 7, 2) := by decide +kernel
theorem dX12_pairing_60 : decode cX12_pairing 60 = .ok (.ishr, 1) := by decide +kernel
theorem dX12_pairing_61 : decode cX12_pairing 61 = .ok (.iconst 1, 1) := by decide +kernel
theorem dX12_pairing_62 : decode cX12_pairing 62 = .ok (.iand, 1) := by decide +kernel
theorem dX12_pairing_63 : decode cX12_pairing 63 = .ok (.iconst 1, 1) := by decide +kernel
theorem dX12_pairing_64 : decode cX12_pairing 64 = .ok (.if_icmp .ne 49, 3) := by decide +kernel
theorem dX12_pairing_67 : decode cX12_pairing 67 = .ok (.iload 6, 2) := by decide +kernel
theorem dX12_pairing_69 : decode cX12_pairing 69 = .ok (.aload_n 0, 1) := by decide +kernel
theorem dX12_pairing_70 : decode cX12_pairing 70 = .ok (.getfield 80, 3) := by decide +kernel
theorem dX12_pairing_73 : decode cX12_pairing 73 = .ok (.bipush 60, 2) := by decide +kernel
theorem dX12_pairing_75 : decode cX12_pairing 75 = .ok (.aload_n 0, 1) := by decide +kernel
theorem dX12_pairing_76 : decode cX12_pairing 76 = .ok (.getfield 90, 3) := by decide +kernel
theorem dX12_pairing_79 : decode cX12_pairing 79 = .ok (.iload 4, 2) := by decide +kernel
theorem dX12_pairing_81 : decode cX12_pairing 81 = .ok (.iaload, 1) := by decide +kernel
theorem dX12_pairing_82 : decode cX12_pairing 82 = .ok (.imul, 1) := by decide +kernel
theorem dX12_pairing_83 : decode cX12_pairing 83 = .ok (.aload_n 0, 1) := by decide +kernel
theorem dX12_pairing_84 : decode cX12_pairing 84 = .ok (.getfield 90, 3) := by decide +kernel
theorem dX12_pairing_87 : decode cX12_pairing 87 = .ok (.iload 7, 2) := by decide +kernel
theorem dX12_pairing_89 : decode cX12_pairing 89 = .ok (.iaload, 1) := by decide +kernel
theorem dX12_pairing_90 : decode cX12_pairing 90 = .ok (.iadd, 1) := by decide +kernel
theorem dX12_pairing_91 : decode cX12_pairing 91 = .ok (.iaload, 1) := by decide +kernel
theorem dX12_pairing_92 : decode cX12_pairing 92 = .ok (.aload_n 0, 1) := by decide +kernel
theorem dX12_pairing_93 : decode cX12_pairing 93 = .ok (.iload 5, 2) := by decide +kernel
theorem dX12_pairing_95 : decode cX12_pairing 95 = .ok (.iconst 1, 1) := by decide +kernel
theorem dX12_pairing_96 : decode cX12_pairing 96 = .ok (.iload 7, 2) := by decide +kernel
theorem dX12_pairing_98 : decode cX12_pairing 98 = .ok (.ishl, 1) := by decide +kernel
theorem dX12_pairing_99 : decode cX12_pairing 99 = .ok (.iconst (-1), 1) := by decide +kernel
theorem dX12_pairing_100 : decode cX12_pairing 100 = .ok (.ixor, 1) := by decide +kernel
theorem dX12_pairing_101 : decode cX12_pairing 101 = .ok (.iand, 1) := by decide +kernel
theorem dX12_pairing_102 : decode cX12_pairing 102 = .ok (.iload_n 2, 1) := by decide +kernel
theorem dX12_pairing_103 : decode cX12_pairing 103 = .ok (.iload_n 3, 1) := by decide +kernel
theorem dX12_pairing_104 : decode cX12_pairing 104 = .ok (.invokevirtual 387, 3) := by decide +kernel
theorem dX12_pairing_107 : decode cX12_pairing 107 = .ok (.iadd, 1) := by decide +kernel
theorem dX12_pairing_108 : decode cX12_pairing 108 = .ok (.invokestatic 155, 3) := by decide +kernel
theorem dX12_pairing_111 : decode cX12_pairing 111 = .ok (.istore 6, 2) := by decide +kernel
theorem dX12_pairing_113 : decode cX12_pairing 113 = .ok (.iinc 7 1, 3) := by decide +kernel
theorem dX12_pairing_116 : decode cX12_pairing 116 = .ok (.goto (-66), 3) := by decide +kernel
theorem dX12_pairing_119 : decode cX12_pairing 119 = .ok (.iload 6, 2) := by decide +kernel
theorem dX12_pairing_121 : decode cX12_pairing 121 = .ok (.ireturn, 1) := by decide +kernel
theorem dX12_twice_0 : decode cX12_twice 0 = .ok (.aload_n 0, 1) := by decide +kernel
theorem dX12_twice_1 : decode cX12_twice 1 = .ok (.iload_n 1, 1) := by decide +kernel
theorem dX12_twice_2 : decode cX12_twice 2 = .ok (.invokevirtual 284, 3) := by decide +kernel
theorem dX12_twice_5 : decode cX12_twice 5 = .ok (.ifCond .eq 28, 3) := by decide +kernel
theorem dX12_twice_8 : decode cX12_twice 8 = .ok (.aload_n 0, 1) := by decide +kernel
theorem dX12_twice_9 : decode cX12_twice 9 = .ok (.getfield 31, 3) := by decide +kernel
theorem dX12_twice_12 : decode cX12_twice 12 = .ok (.iload_n 1, 1) := by decide +kernel
theorem dX12_twice_13 : decode cX12_twice 13 = .ok (.iaload, 1) := by decide +kernel
theorem dX12_twice_14 : decode cX12_twice 14 = .ok (.bipush 12, 2) := by decide +kernel
theorem dX12_twice_16 : decode cX12_twice 16 = .ok (.if_icmp .gt 17, 3) := by decide +kernel
theorem dX12_twice_19 : decode cX12_twice 19 = .ok (.aload_n 0, 1) := by decide +kernel
theorem dX12_twice_20 : decode cX12_twice 20 = .ok (.iload_n 1, 1) := by decide +kernel
theorem dX12_twice_21 : decode cX12_twice 21 = .ok (.aload_n 0, 1) := by decide +kernel
theorem dX12_twice_22 : decode cX12_twice 22 = .ok (.iload_n 1, 1) := by decide +kernel
theorem dX12_twice_23 : decode cX12_twice 23 = .ok (.invokevirtual 287, 3) := by decide +kernel
theorem dX12_twice_26 : decode cX12_twice 26 = .ok (.invokevirtual 341, 3) := by decide +kernel
theorem dX12_twice_29 : decode cX12_twice 29 = .ok (.iconst 1, 1) := by decide +kernel
theorem dX12_twice_30 : decode cX12_twice 30 = .ok (.if_icmp .le 5, 3) := by decide +kernel
theorem dX12_twice_33 : decode cX12_twice 33 = .ok (.iconst (-1), 1) := by decide +kernel
theorem dX12_twice_34 : decode cX12_twice 34 = .ok (.ireturn, 1) := by decide +kernel
theorem dX12_twice_35 : decode cX12_twice 35 = .ok (.iconst 0, 1) := by decide +kernel
theorem dX12_twice_36 : decode cX12_twice 36 = .ok (.istore_n 2, 1) := by decide +kernel
theorem dX12_twice_37 : decode cX12_twice 37 = .ok (.iconst 0, 1) := by decide +kernel
theorem dX12_twice_38 : decode cX12_twice 38 = .ok (.istore_n 3, 1) := by decide +kernel
theorem dX12_twice_39 : decode cX12_twice 39 = .ok (.iload_n 3, 1) := by decide +kernel
theorem dX12_twice_40 : decode cX12_twice 40 = .ok (.aload_n 0, 1) := by decide +kernel
theorem dX12_twice_41 : decode cX12_twice 41 = .ok (.getfield 34, 3) := by decide +kernel
theorem dX12_twice_44 : decode cX12_twice 44 = .ok (.iload_n 1, 1) := by decide +kernel
theorem dX12_twice_45 : decode cX12_twice 45 = .ok (.iaload, 1) := by decide +kernel
theorem dX12_twice_46 : decode cX12_twice 46 = .ok (.if_icmp .ge 36, 3) := by decide +kernel
theorem dX12_twice_49 : decode cX12_twice 49 = .ok (.aload_n 0, 1) := by decide +kernel
theorem dX12_twice_50 : decode cX12_twice 50 = .ok (.iload_n 1, 1) := by decide +kernel
theorem dX12_twice_51 : decode cX12_twice 51 = .ok (.iload_n 3, 1) := by decide +kernel
theorem dX12_twice_52 : decode cX12_twice 52 = .ok (.aload_n 0, 1) := by decide +kernel
theorem dX12_twice_53 : decode cX12_twice 53 = .ok (.iload_n 1, 1) := by decide +kernel
theorem dX12_twice_54 : decode cX12_twice 54 = .ok (.invokevirtual 287, 3) := by decide +kernel
theorem dX12_twice_57 : decode cX12_twice 57 = .ok (.invokevirtual 290, 3) := by decide +kernel
theorem dX12_twice_60 : decode cX12_twice 60 = .ok (.iconst 2, 1) := by decide +kernel
theorem dX12_twice_61 : decode cX12_twice 61 = .ok (.irem, 1) := by decide +kernel
theorem dX12_twice_62 : decode cX12_twice 62 = .ok (.iconst 1, 1) := by decide +kernel
theorem dX12_twice_63 : decode cX12_twice 63 = .ok (.if_icmp .ne 13, 3) := by decide +kernel
theorem dX12_twice_66 : decode cX12_twice 66 = .ok (.aload_n 0, 1) := by decide +kernel
theorem dX12_twice_67 : decode cX12_twice 67 = .ok (.getfield 90, 3) := by decide +kernel
theorem dX12_twice_70 : decode cX12_twice 70 = .ok (.iload_n 2, 1) := by decide +kernel
theorem dX12_twice_71 : decode cX12_twice 71 = .ok (.iload_n 3, 1) := by decide +kernel
theorem dX12_twice_72 : decode cX12_twice 72 = .ok (.iastore, 1) := by decide +kernel
theorem dX12_twice_73 : decode cX12_twice 73 = .ok (.iinc 2 1, 3) := by decide +kernel
theorem dX12_twice_76 : decode cX12_twice 76 = .ok (.iinc 3 1, 3) := by decide +kernel
theorem dX12_twice_79 : decode cX12_twice 79 = .ok (.goto (-40), 3) := by decide +kernel
theorem dX12_twice_82 : decode cX12_twice 82 = .ok (.aload_n 0, 1) := by decide +kernel
theorem dX12_twice_83 : decode cX12_twice 83 = .ok (.iload_n 1, 1) := by decide +kernel
theorem dX12_twice_84 : decode cX12_twice 84 = .ok (.invokevirtual 366, 3) := by decide +kernel
theorem dX12_twice_87 : decode cX12_twice 87 = .ok (.iload_n 2, 1) := by decide +kernel
theorem dX12_twice_88 : decode cX12_twice 88 = .ok (.ifCond .ne 7, 3) := by decide +kernel
theorem dX12_twice_91 : decode cX12_twice 91 = .ok (.iconst 0, 1) := by decide +kernel
theorem dX12_twice_92 : decode cX12_twice 92 = .ok (.goto 14, 3) := by decide +kernel
theorem dX12_twice_95 : decode cX12_twice 95 = .ok (.aload_n 0, 1) := by decide +kernel
theorem dX12_twice_96 : decode cX12_twice 96 = .ok (.iconst 1, 1) := by decide +kernel
theorem dX12_twice_97 : decode cX12_twice 97 = .ok (.iload_n 2, 1) := by decide +kernel
theorem dX12_twice_98 : decode cX12_twice 98 = .ok (.ishl, 1) := by decide +kernel
theorem dX12_twice_99 : decode cX12_twice 99 = .ok (.iconst 1, 1) := by decide +kernel
theorem dX12_twice_100 : decode cX12_twice 100 = .ok (.isub, 1) := by decide +kernel
theorem dX12_twice_101 : decode cX12_twice 101 = .ok (.iload_n 2, 1) := by decide +kernel
theorem dX12_twice_102 : decode cX12_twice 102 = .ok (.iconst 2, 1) := by decide +kernel
theorem dX12_twice_103 : decode cX12_twice 103 = .ok (.invokevirtual 387, 3) := by decide +kernel
theorem dX12_twice_106 : decode cX12_twice 106 = .ok (.ireturn, 1) := by decide +kernel
theorem dX12_stock_0 : decode cX12_stock 0 = .ok (.aload_n 0, 1) := by decide +kernel
theorem dX12_stock_1 : decode cX12_stock 1 = .ok (.iload_n 1, 1) := by decide +kernel
theorem dX12_stock_2 : decode cX12_stock 2 = .ok (.invokevirtual 375, 3) := by decide +kernel
theorem dX12_stock_5 : decode cX12_stock 5 = .ok (.ifCond .eq 13, 3) := by decide +kernel
theorem dX12_stock_8 : decode cX12_stock 8 = .ok (.iload_n 2, 1) := by decide +kernel
theorem dX12_stock_9 : decode cX12_stock 9 = .ok (.iconst 0, 1) := by decide +kernel
theorem dX12_stock_10 : decode cX12_stock 10 = .ok (.bipush 99, 2) := by decide +kernel
theorem dX12_stock_12 : decode cX12_stock 12 = .ok (.invokestatic 121, 3) := by decide +kernel
theorem dX12_stock_15 : decode cX12_stock 15 = .ok (.ifCond .ne 5, 3) := by decide +kernel
theorem dX12_stock_18 : decode cX12_stock 18 = .ok (.iconst 0, 1) := by decide +kernel
theorem dX12_stock_19 : decode cX12_stock 19 = .ok (.ireturn, 1) := by decide +kernel
theorem dX12_stock_20 : decode cX12_stock 20 = .ok (.aload_n 0, 1) := by decide +kernel
theorem dX12_stock_21 : decode cX12_stock 21 = .ok (.getfield 19, 3) := by decide +kernel
theorem dX12_stock_24 : decode cX12_stock 24 = .ok (.iload_n 1, 1) := by decide +kernel
theorem dX12_stock_25 : decode cX12_stock 25 = .ok (.iload_n 2, 1) := by decide +kernel
theorem dX12_stock_26 : decode cX12_stock 26 = .ok (.iastore, 1) := by decide +kernel
theorem dX12_stock_27 : decode cX12_stock 27 = .ok (.iconst 1, 1) := by decide +kernel
theorem dX12_stock_28 : decode cX12_stock 28 = .ok (.ireturn, 1) := by decide +kernel
theorem dX12_pace_0 : decode cX12_pace 0 = .ok (.iload_n 1, 1) := by decide +kernel
theorem dX12_pace_1 : decode cX12_pace 1 = .ok (.iconst 1, 1) := by decide +kernel
theorem dX12_pace_2 : decode cX12_pace 2 = .ok (.bipush 9, 2) := by decide +kernel
theorem dX12_pace_4 : decode cX12_pace 4 = .ok (.invokestatic 121, 3) := by decide +kernel
theorem dX12_pace_7 : decode cX12_pace 7 = .ok (.ifCond .eq 13, 3) := by decide +kernel
theorem dX12_pace_10 : decode cX12_pace 10 = .ok (.iload_n 2, 1) := by decide +kernel
theorem dX12_pace_11 : decode cX12_pace 11 = .ok (.iconst 0, 1) := by decide +kernel
theorem dX12_pace_12 : decode cX12_pace 12 = .ok (.bipush 9, 2) := by decide +kernel
theorem dX12_pace_14 : decode cX12_pace 14 = .ok (.invokestatic 121, 3) := by decide +kernel
theorem dX12_pace_17 : decode cX12_pace 17 = .ok (.ifCond .ne 5, 3) := by decide +kernel
theorem dX12_pace_20 : decode cX12_pace 20 = .ok (.iconst 0, 1) := by decide +kernel
theorem dX12_pace_21 : decode cX12_pace 21 = .ok (.ireturn, 1) := by decide +kernel
theorem dX12_pace_22 : decode cX12_pace 22 = .ok (.aload_n 0, 1) := by decide +kernel
theorem dX12_pace_23 : decode cX12_pace 23 = .ok (.iload_n 1, 1) := by decide +kernel
theorem dX12_pace_24 : decode cX12_pace 24 = .ok (.putfield 108, 3) := by decide +kernel
theorem dX12_pace_27 : decode cX12_pace 27 = .ok (.aload_n 0, 1) := by decide +kernel
theorem dX12_pace_28 : decode cX12_pace 28 = .ok (.iload_n 2, 1) := by decide +kernel
theorem dX12_pace_29 : decode cX12_pace 29 = .ok (.putfield 390, 3) := by decide +kernel
theorem dX12_pace_32 : decode cX12_pace 32 = .ok (.iconst 1, 1) := by decide +kernel
theorem dX12_pace_33 : decode cX12_pace 33 = .ok (.ireturn, 1) := by decide +kernel
theorem dX12_comes_0 : decode cX12_comes 0 = .ok (.aload_n 0, 1) := by decide +kernel
theorem dX12_comes_1 : decode cX12_comes 1 = .ok (.iload_n 2, 1) := by decide +kernel
theorem dX12_comes_2 : decode cX12_comes 2 = .ok (.invokevirtual 284, 3) := by decide +kernel
theorem dX12_comes_5 : decode cX12_comes 5 = .ok (.ifCond .eq 55, 3) := by decide +kernel
theorem dX12_comes_8 : decode cX12_comes 8 = .ok (.iload_n 1, 1) := by decide +kernel
theorem dX12_comes_9 : decode cX12_comes 9 = .ok (.aload_n 0, 1) := by decide +kernel
theorem dX12_comes_10 : decode cX12_comes 10 = .ok (.getfield 393, 3) := by decide +kernel
theorem dX12_comes_13 : decode cX12_comes 13 = .ok (.ifCond .ne 7, 3) := by decide +kernel
theorem dX12_comes_16 : decode cX12_comes 16 = .ok (.iconst 0, 1) := by decide +kernel
theorem dX12_comes_17 : decode cX12_comes 17 = .ok (.goto 14, 3) := by decide +kernel
theorem dX12_comes_20 : decode cX12_comes 20 = .ok (.aload_n 0, 1) := by decide +kernel
theorem dX12_comes_21 : decode cX12_comes 21 = .ok (.getfield 93, 3) := by decide +kernel
theorem dX12_comes_24 : decode cX12_comes 24 = .ok (.aload_n 0, 1) := by decide +kernel
theorem dX12_comes_25 : decode cX12_comes 25 = .ok (.getfield 393, 3) := by decide +kernel
theorem dX12_comes_28 : decode cX12_comes 28 = .ok (.iconst 1, 1) := by decide +kernel
theorem dX12_comes_29 : decode cX12_comes 29 = .ok (.isub, 1) := by decide +kernel
theorem dX12_comes_30 : decode cX12_comes 30 = .ok (.iaload, 1) := by decide +kernel
theorem dX12_comes_31 : decode cX12_comes 31 = .ok (.sipush 9999, 3) := by decide +kernel
theorem dX12_comes_34 : decode cX12_comes 34 = .ok (.invokestatic 121, 3) := by decide +kernel
theorem dX12_comes_37 : decode cX12_comes 37 = .ok (.ifCond .eq 23, 3) := by decide +kernel
theorem dX12_comes_40 : decode cX12_comes 40 = .ok (.iload_n 3, 1) := by decide +kernel
theorem dX12_comes_41 : decode cX12_comes 41 = .ok (.iconst 0, 1) := by decide +kernel
theorem dX12_comes_42 : decode cX12_comes 42 = .ok (.sipush 999, 3) := by decide +kernel
theorem dX12_comes_45 : decode cX12_comes 45 = .ok (.invokestatic 121, 3) := by decide +kernel
theorem dX12_comes_48 : decode cX12_comes 48 = .ok (.ifCond .eq 12, 3) := by decide +kernel
theorem dX12_comes_51 : decode cX12_comes 51 = .ok (.aload_n 0, 1) := by decide +kernel
theorem dX12_comes_52 : decode cX12_comes 52 = .ok (.getfield 393, 3) := by decide +kernel
theorem dX12_comes_55 : decode cX12_comes 55 = .ok (.bipush 30, 2) := by decide +kernel
theorem dX12_comes_57 : decode cX12_comes 57 = .ok (.if_icmp .ne 5, 3) := by decide +kernel
theorem dX12_comes_60 : decode cX12_comes 60 = .ok (.iconst (-1), 1) := by decide +kernel
theorem dX12_comes_61 : decode cX12_comes 61 = .ok (.ireturn, 1) := by decide +kernel
theorem dX12_comes_62 : decode cX12_comes 62 = .ok (.aload_n 0, 1) := by decide +kernel
theorem dX12_comes_63 : decode cX12_comes 63 = .ok (.getfield 93, 3) := by decide +kernel
theorem dX12_comes_66 : decode cX12_comes 66 = .ok (.aload_n 0, 1) := by decide +kernel
theorem dX12_comes_67 : decode cX12_comes 67 = .ok (.getfield 393, 3) := by decide +kernel
theorem dX12_comes_70 : decode cX12_comes 70 = .ok (.iload_n 1, 1) := by decide +kernel
theorem dX12_comes_71 : decode cX12_comes 71 = .ok (.iastore, 1) := by decide +kernel
theorem dX12_comes_72 : decode cX12_comes 72 = .ok (.aload_n 0, 1) := by decide +kernel
theorem dX12_comes_73 : decode cX12_comes 73 = .ok (.getfield 96, 3) := by decide +kernel
theorem dX12_comes_76 : decode cX12_comes 76 = .ok (.aload_n 0, 1) := by decide +kernel
theorem dX12_comes_77 : decode cX12_comes 77 = .ok (.getfield 393, 3) := by decide +kernel
theorem dX12_comes_80 : decode cX12_comes 80 = .ok (.iload_n 2, 1) := by decide +kernel
theorem dX12_comes_81 : decode cX12_comes 81 = .ok (.iastore, 1) := by decide +kernel
theorem dX12_comes_82 : decode cX12_comes 82 = .ok (.aload_n 0, 1) := by decide +kernel
theorem dX12_comes_83 : decode cX12_comes 83 = .ok (.getfield 99, 3) := by decide +kernel
theorem dX12_comes_86 : decode cX12_comes 86 = .ok (.aload_n 0, 1) := by decide +kernel
theorem dX12_comes_87 : decode cX12_comes 87 = .ok (.getfield 393, 3) := by decide +kernel
theorem dX12_comes_90 : decode cX12_comes 90 = .ok (.iload_n 3, 1) := by decide +kernel
theorem dX12_comes_91 : decode cX12_comes 91 = .ok (.iastore, 1) := by decide +kernel
theorem dX12_comes_92 : decode cX12_comes 92 = .ok (.aload_n 0, 1) := by decide +kernel
theorem dX12_comes_93 : decode cX12_comes 93 = .ok (.dup, 1) := by decide +kernel
theorem dX12_comes_94 : decode cX12_comes 94 = .ok (.getfield 393, 3) := by decide +kernel
theorem dX12_comes_97 : decode cX12_comes 97 = .ok (.iconst 1, 1) := by decide +kernel
theorem dX12_comes_98 : decode cX12_comes 98 = .ok (.iadd, 1) := by decide +kernel
theorem dX12_comes_99 : decode cX12_comes 99 = .ok (.putfield 393, 3) := by decide +kernel
theorem dX12_comes_102 : decode cX12_comes 102 = .ok (.aload_n 0, 1) := by decide +kernel
theorem dX12_comes_103 : decode cX12_comes 103 = .ok (.getfield 393, 3) := by decide +kernel
theorem dX12_comes_106 : decode cX12_comes 106 = .ok (.iconst 1, 1) := by decide +kernel
theorem dX12_comes_107 : decode cX12_comes 107 = .ok (.isub, 1) := by decide +kernel
theorem dX12_comes_108 : decode cX12_comes 108 = .ok (.ireturn, 1) := by decide +kernel
theorem dX12_close_0 : decode cX12_close 0 = .ok (.aload_n 0, 1) := by decide +kernel
theorem dX12_close_1 : decode cX12_close 1 = .ok (.getfield 393, 3) := by decide +kernel
theorem dX12_close_4 : decode cX12_close 4 = .ok (.istore_n 1, 1) := by decide +kernel
theorem dX12_close_5 : decode cX12_close 5 = .ok (.aload_n 0, 1) := by decide +kernel
theorem dX12_close_6 : decode cX12_close 6 = .ok (.iconst 0, 1) := by decide +kernel
theorem dX12_close_7 : decode cX12_close 7 = .ok (.putfield 393, 3) := by decide +kernel
theorem dX12_close_10 : decode cX12_close 10 = .ok (.aload_n 0, 1) := by decide +kernel
theorem dX12_close_11 : decode cX12_close 11 = .ok (.iconst 0, 1) := by decide +kernel
theorem dX12_close_12 : decode cX12_close 12 = .ok (.putfield 396, 3) := by decide +kernel
theorem dX12_close_15 : decode cX12_close 15 = .ok (.iload_n 1, 1) := by decide +kernel
theorem dX12_close_16 : decode cX12_close 16 = .ok (.ireturn, 1) := by decide +kernel
theorem dX12_isThere_0 : decode cX12_isThere 0 = .ok (.iconst 0, 1) := by decide +kernel
theorem dX12_isThere_1 : decode cX12_isThere 1 = .ok (.istore_n 2, 1) := by decide +kernel
theorem dX12_isThere_2 : decode cX12_isThere 2 = .ok (.iload_n 2, 1) := by decide +kernel
theorem dX12_isThere_3 : decode cX12_isThere 3 = .ok (.aload_n 0, 1) := by decide +kernel
theorem dX12_isThere_4 : decode cX12_isThere 4 = .ok (.getfield 125, 3) := by decide +kernel
theorem dX12_isThere_7 : decode cX12_isThere 7 = .ok (.if_icmp .ge 67, 3) := by decide +kernel
theorem dX12_isThere_10 : decode cX12_isThere 10 = .ok (.iconst 0, 1) := by decide +kernel
theorem dX12_isThere_11 : decode cX12_isThere 11 = .ok (.istore_n 3, 1) := by decide +kernel
theorem dX12_isThere_12 : decode cX12_isThere 12 = .ok (.iconst 0, 1) := by decide +kernel
theorem dX12_isThere_13 : decode cX12_isThere 13 = .ok (.istore 4, 2) := by decide +kernel
theorem dX12_isThere_15 : decode cX12_isThere 15 = .ok (.iload 4, 2) := by decide +kernel
theorem dX12_isThere_17 : decode cX12_isThere 17 = .ok (.aload_n 0, 1) := by decide +kernel
theorem dX12_isThere_18 : decode cX12_isThere 18 = .ok (.getfield 25, 3) := by decide +kernel
theorem dX12_isThere_21 : decode cX12_isThere 21 = .ok (.iload_n 1, 1) := by decide +kernel
theorem dX12_isThere_22 : decode cX12_isThere 22 = .ok (.iaload, 1) := by decide +kernel
theorem dX12_isThere_23 : decode cX12_isThere 23 = .ok (.if_icmp .ge 33, 3) := by decide +kernel
theorem dX12_isThere_26 : decode cX12_isThere 26 = .ok (.iload_n 3, 1) := by decide +kernel
theorem dX12_isThere_27 : decode cX12_isThere 27 = .ok (.aload_n 0, 1) := by decide +kernel
theorem dX12_isThere_28 : decode cX12_isThere 28 = .ok (.getfield 28, 3) := by decide +kernel
theorem dX12_isThere_31 : decode cX12_isThere 31 = .ok (.bipush 6, 2) := by decide +kernel
theorem dX12_isThere_33 : decode cX12_isThere 33 = .ok (.iload_n 1, 1) := by decide +kernel
theorem dX12_isThere_34 : decode cX12_isThere 34 = .ok (.imul, 1) := by decide +kernel
theorem dX12_isThere_35 : decode cX12_isThere 35 = .ok (.iload 4, 2) := by decide +kernel
theorem dX12_isThere_37 : decode cX12_isThere 37 = .ok (.iadd, 1) := by decide +kernel
theorem dX12_isThere_38 : decode cX12_isThere 38 = .ok (.iaload, 1) := by decide +kernel
theorem dX12_isThere_39 : decode cX12_isThere 39 = .ok (.iload_n 2, 1) := by decide +kernel
theorem dX12_isThere_40 : decode cX12_isThere 40 = .ok (.if_icmp .ne 7, 3) := by decide +kernel
theorem dX12_isThere_43 : decode cX12_isThere 43 = .ok (.iconst 1, 1) := by decide +kernel
theorem dX12_isThere_44 : decode cX12_isThere 44 = .ok (.goto 4, 3) := by decide +kernel
theorem dX12_isThere_47 : decode cX12_isThere 47 = .ok (.iconst 0, 1) := by decide +kernel
theorem dX12_isThere_48 : decode cX12_isThere 48 = .ok (.iadd, 1) := by decide +kernel
theorem dX12_isThere_49 : decode cX12_isThere 49 = .ok (.istore_n 3, 1) := by decide +kernel
theorem dX12_isThere_50 : decode cX12_isThere 50 = .ok (.iinc 4 1, 3) := by decide +kernel
theorem dX12_isThere_53 : decode cX12_isThere 53 = .ok (.goto (-38), 3) := by decide +kernel
theorem dX12_isThere_56 : decode cX12_isThere 56 = .ok (.aload_n 0, 1) := by decide +kernel
theorem dX12_isThere_57 : decode cX12_isThere 57 = .ok (.getfield 105, 3) := by decide +kernel
theorem dX12_isThere_60 : decode cX12_isThere 60 = .ok (.iload_n 2, 1) := by decide +kernel
theorem dX12_isThere_61 : decode cX12_isThere 61 = .ok (.iaload, 1) := by decide +kernel
theorem dX12_isThere_62 : decode cX12_isThere 62 = .ok (.iload_n 3, 1) := by decide +kernel
theorem dX12_isThere_63 : decode cX12_isThere 63 = .ok (.if_icmp .ge 5, 3) := by decide +kernel
theorem dX12_isThere_66 : decode cX12_isThere 66 = .ok (.iconst 0, 1) := by decide +kernel
theorem dX12_isThere_67 : decode cX12_isThere 67 = .ok (.ireturn, 1) := by decide +kernel
theorem dX12_isThere_68 : decode cX12_isThere 68 = .ok (.iinc 2 1, 3) := by decide +kernel
theorem dX12_isThere_71 : decode cX12_isThere 71 = .ok (.goto (-69), 3) := by decide +kernel
theorem dX12_isThere_74 : decode cX12_isThere 74 = .ok (.iconst 1, 1) := by decide +kernel
theorem dX12_isThere_75 : decode cX12_isThere 75 = .ok (.ireturn, 1) := by decide +kernel
theorem dX12_inBalloon_0 : decode cX12_inBalloon 0 = .ok (.iconst 0, 1) := by decide +kernel
theorem dX12_inBalloon_1 : decode cX12_inBalloon 1 = .ok (.istore_n 3, 1) := by decide +kernel
theorem dX12_inBalloon_2 : decode cX12_inBalloon 2 = .ok (.iconst 0, 1) := by decide +kernel
theorem dX12_inBalloon_3 : decode cX12_inBalloon 3 = .ok (.istore 4, 2) := by decide +kernel
theorem dX12_inBalloon_5 : decode cX12_inBalloon 5 = .ok (.iload 4, 2) := by decide +kernel
theorem dX12_inBalloon_7 : decode cX12_inBalloon 7 = .ok (.aload_n 0, 1) := by decide +kernel
theorem dX12_inBalloon_8 : decode cX12_inBalloon 8 = .ok (.getfield 31, 3) := by decide +kernel
theorem dX12_inBalloon_11 : decode cX12_inBalloon 11 = .ok (.iload_n 1, 1) := by decide +kernel
theorem dX12_inBalloon_12 : decode cX12_inBalloon 12 = .ok (.iaload, 1) := by decide +kernel
theorem dX12_inBalloon_13 : decode cX12_inBalloon 13 = .ok (.if_icmp .ge 33, 3) := by decide +kernel
theorem dX12_inBalloon_16 : decode cX12_inBalloon 16 = .ok (.iload_n 3, 1) := by decide +kernel
theorem dX12_inBalloon_17 : decode cX12_inBalloon 17 = .ok (.aload_n 0, 1) := by decide +kernel
theorem dX12_inBalloon_18 : decode cX12_inBalloon 18 = .ok (.getfield 46, 3) := by decide +kernel
theorem dX12_inBalloon_21 : decode cX12_inBalloon 21 = .ok (.bipush 24, 2) := by decide +kernel
theorem dX12_inBalloon_23 : decode cX12_inBalloon 23 = .ok (.iload_n 1, 1) := by decide +kernel
theorem dX12_inBalloon_24 : decode cX12_inBalloon 24 = .ok (.imul, 1) := by decide +kernel
theorem dX12_inBalloon_25 : decode cX12_inBalloon 25 = .ok (.iload 4, 2) := by decide +kernel
theorem dX12_inBalloon_27 : decode cX12_inBalloon 27 = .ok (.iadd, 1) := by decide +kernel
theorem dX12_inBalloon_28 : decode cX12_inBalloon 28 = .ok (.iaload, 1) := by decide +kernel
theorem dX12_inBalloon_29 : decode cX12_inBalloon 29 = .ok (.iload_n 2, 1) := by decide +kernel
theorem dX12_inBalloon_30 : decode cX12_inBalloon 30 = .ok (.if_icmp .ne 7, 3) := by decide +kernel
theorem dX12_inBalloon_33 : decode cX12_inBalloon 33 = .ok (.iconst 1, 1) := by decide +kernel
theorem dX12_inBalloon_34 : decode cX12_inBalloon 34 = .ok (.goto 4, 3) := by decide +kernel
theorem dX12_inBalloon_37 : decode cX12_inBalloon 37 = .ok (.iconst 0, 1) := by decide +kernel
theorem dX12_inBalloon_38 : decode cX12_inBalloon 38 = .ok (.iadd, 1) := by decide +kernel
theorem dX12_inBalloon_39 : decode cX12_inBalloon 39 = .ok (.istore_n 3, 1) := by decide +kernel
theorem dX12_inBalloon_40 : decode cX12_inBalloon 40 = .ok (.iinc 4 1, 3) := by decide +kernel
theorem dX12_inBalloon_43 : decode cX12_inBalloon 43 = .ok (.goto (-38), 3) := by decide +kernel
theorem dX12_inBalloon_46 : decode cX12_inBalloon 46 = .ok (.iload_n 3, 1) := by decide +kernel
theorem dX12_inBalloon_47 : decode cX12_inBalloon 47 = .ok (.ireturn, 1) := by decide +kernel
theorem dX12_run_0 : decode cX12_run 0 = .ok (.iconst 0, 1) := by decide +kernel
theorem dX12_run_1 : decode cX12_run 1 = .ok (.istore_n 3, 1) := by decide +kernel
theorem dX12_run_2 : decode cX12_run 2 = .ok (.iload_n 3, 1) := by decide +kernel
theorem dX12_run_3 : decode cX12_run 3 = .ok (.aload_n 0, 1) := by decide +kernel
theorem dX12_run_4 : decode cX12_run 4 = .ok (.getfield 125, 3) := by decide +kernel
theorem dX12_run_7 : decode cX12_run 7 = .ok (.if_icmp .ge 21, 3) := by decide +kernel
theorem dX12_run_10 : decode cX12_run 10 = .ok (.aload_n 0, 1) := by decide +kernel
theorem dX12_run_11 : decode cX12_run 11 = .ok (.getfield 105, 3) := by decide +kernel
theorem dX12_run_14 : decode cX12_run 14 = .ok (.iload_n 3, 1) := by decide +kernel
theorem dX12_run_15 : decode cX12_run 15 = .ok (.aload_n 0, 1) := by decide +kernel
theorem dX12_run_16 : decode cX12_run 16 = .ok (.getfield 19, 3) := by decide +kernel
theorem dX12_run_19 : decode cX12_run 19 = .ok (.iload_n 3, 1) := by decide +kernel
theorem dX12_run_20 : decode cX12_run 20 = .ok (.iaload, 1) := by decide +kernel
theorem dX12_run_21 : decode cX12_run 21 = .ok (.iastore, 1) := by decide +kernel
theorem dX12_run_22 : decode cX12_run 22 = .ok (.iinc 3 1, 3) := by decide +kernel
theorem dX12_run_25 : decode cX12_run 25 = .ok (.goto (-23), 3) := by decide +kernel
theorem dX12_run_28 : decode cX12_run 28 = .ok (.lload_n 1, 1) := by decide +kernel
theorem dX12_run_29 : decode cX12_run 29 = .ok (.lstore_n 3, 1) := by decide +kernel
theorem dX12_run_30 : decode cX12_run 30 = .ok (.iconst 0, 1) := by decide +kernel
theorem dX12_run_31 : decode cX12_run 31 = .ok (.istore 5, 2) := by decide +kernel
theorem dX12_run_33 : decode cX12_run 33 = .ok (.iconst 0, 1) := by decide +kernel
theorem dX12_run_34 : decode cX12_run 34 = .ok (.istore 6, 2) := by decide +kernel
theorem dX12_run_36 : decode cX12_run 36 = .ok (.iconst 0, 1) := by decide +kernel
theorem dX12_run_37 : decode cX12_run 37 = .ok (.istore 7, 2) := by decide +kernel
theorem dX12_run_39 : decode cX12_run 39 = .ok (.iload 7, 2) := by decide +kernel
theorem dX12_run_41 : decode cX12_run 41 = .ok (.aload_n 0, 1) := by decide +kernel
theorem dX12_run_42 : decode cX12_run 42 = .ok (.getfield 393, 3) := by decide +kernel
theorem dX12_run_45 : decode cX12_run 45 = .ok (.if_icmp .ge 291, 3) := by decide +kernel
theorem dX12_run_48 : decode cX12_run 48 = .ok (.aload_n 0, 1) := by decide +kernel
theorem dX12_run_49 : decode cX12_run 49 = .ok (.getfield 96, 3) := by decide +kernel
theorem dX12_run_52 : decode cX12_run 52 = .ok (.iload 7, 2) := by decide +kernel
theorem dX12_run_54 : decode cX12_run 54 = .ok (.iaload, 1) := by decide +kernel
theorem dX12_run_55 : decode cX12_run 55 = .ok (.istore 8, 2) := by decide +kernel
theorem dX12_run_57 : decode cX12_run 57 = .ok (.iload 5, 2) := by decide +kernel
theorem dX12_run_59 : decode cX12_run 59 = .ok (.aload_n 0, 1) := by decide +kernel
theorem dX12_run_60 : decode cX12_run 60 = .ok (.getfield 93, 3) := by decide +kernel
theorem dX12_run_63 : decode cX12_run 63 = .ok (.iload 7, 2) := by decide +kernel
theorem dX12_run_65 : decode cX12_run 65 = .ok (.iaload, 1) := by decide +kernel
theorem dX12_run_66 : decode cX12_run 66 = .ok (.invokestatic 149, 3) := by decide +kernel
theorem dX12_run_69 : decode cX12_run 69 = .ok (.istore 9, 2) := by decide +kernel
theorem dX12_run_71 : decode cX12_run 71 = .ok (.aload_n 0, 1) := by decide +kernel
theorem dX12_run_72 : decode cX12_run 72 = .ok (.getfield 102, 3) := by decide +kernel
theorem dX12_run_75 : decode cX12_run 75 = .ok (.iconst 4, 1) := by decide +kernel
theorem dX12_run_76 : decode cX12_run 76 = .ok (.iload 7, 2) := by decide +kernel
theorem dX12_run_78 : decode cX12_run 78 = .ok (.imul, 1) := by decide +kernel
theorem dX12_run_79 : decode cX12_run 79 = .ok (.iconst 1, 1) := by decide +kernel
theorem dX12_run_80 : decode cX12_run 80 = .ok (.iadd, 1) := by decide +kernel
theorem dX12_run_81 : decode cX12_run 81 = .ok (.iload 9, 2) := by decide +kernel
theorem dX12_run_83 : decode cX12_run 83 = .ok (.iastore, 1) := by decide +kernel
theorem dX12_run_84 : decode cX12_run 84 = .ok (.iload 9, 2) := by decide +kernel
theorem dX12_run_86 : decode cX12_run 86 = .ok (.aload_n 0, 1) := by decide +kernel
theorem dX12_run_87 : decode cX12_run 87 = .ok (.getfield 93, 3) := by decide +kernel
theorem dX12_run_90 : decode cX12_run 90 = .ok (.iload 7, 2) := by decide +kernel
theorem dX12_run_92 : decode cX12_run 92 = .ok (.iaload, 1) := by decide +kernel
theorem dX12_run_93 : decode cX12_run 93 = .ok (.isub, 1) := by decide +kernel
theorem dX12_run_94 : decode cX12_run 94 = .ok (.aload_n 0, 1) := by decide +kernel
theorem dX12_run_95 : decode cX12_run 95 = .ok (.getfield 99, 3) := by decide +kernel
theorem dX12_run_98 : decode cX12_run 98 = .ok (.iload 7, 2) := by decide +kernel
theorem dX12_run_100 : decode cX12_run 100 = .ok (.iaload, 1) := by decide +kernel
theorem dX12_run_101 : decode cX12_run 101 = .ok (.if_icmp .le 7, 3) := by decide +kernel
theorem dX12_run_104 : decode cX12_run 104 = .ok (.iconst 1, 1) := by decide +kernel
theorem dX12_run_105 : decode cX12_run 105 = .ok (.goto 17, 3) := by decide +kernel
theorem dX12_run_108 : decode cX12_run 108 = .ok (.aload_n 0, 1) := by decide +kernel
theorem dX12_run_109 : decode cX12_run 109 = .ok (.iload 8, 2) := by decide +kernel
theorem dX12_run_111 : decode cX12_run 111 = .ok (.invokevirtual 399, 3) := by decide +kernel
theorem dX12_run_114 : decode cX12_run 114 = .ok (.ifCond .eq 7, 3) := by decide +kernel
theorem dX12_run_117 : decode cX12_run 117 = .ok (.iconst 0, 1) := by decide +kernel
theorem dX12_run_118 : decode cX12_run 118 = .ok (.goto 4, 3) := by decide +kernel
theorem dX12_run_121 : decode cX12_run 121 = .ok (.iconst 2, 1) := by decide +kernel
theorem dX12_run_122 : decode cX12_run 122 = .ok (.istore 10, 2) := by decide +kernel
theorem dX12_run_124 : decode cX12_run 124 = .ok (.iconst 0, 1) := by decide +kernel
theorem dX12_run_125 : decode cX12_run 125 = .ok (.istore 11, 2) := by decide +kernel
theorem dX12_run_127 : decode cX12_run 127 = .ok (.iconst 0, 1) := by decide +kernel
theorem dX12_run_128 : decode cX12_run 128 = .ok (.istore 12, 2) := by decide +kernel
theorem dX12_run_130 : decode cX12_run 130 = .ok (.iload 12, 2) := by decide +kernel
theorem dX12_run_132 : decode cX12_run 132 = .ok (.aload_n 0, 1) := by decide +kernel
theorem dX12_run_133 : decode cX12_run 133 = .ok (.getfield 25, 3) := by decide +kernel
theorem dX12_run_136 : decode cX12_run 136 = .ok (.iload 8, 2) := by decide +kernel
theorem dX12_run_138 : decode cX12_run 138 = .ok (.iaload, 1) := by decide +kernel
theorem dX12_run_139 : decode cX12_run 139 = .ok (.if_icmp .ge 135, 3) := by decide +kernel
theorem dX12_run_142 : decode cX12_run 142 = .ok (.iload 10, 2) := by decide +kernel
theorem dX12_run_144 : decode cX12_run 144 = .ok (.ifCond .ne 130, 3) := by decide +kernel
theorem dX12_run_147 : decode cX12_run 147 = .ok (.aload_n 0, 1) := by decide +kernel
theorem dX12_run_148 : decode cX12_run 148 = .ok (.getfield 28, 3) := by decide +kernel
theorem dX12_run_151 : decode cX12_run 151 = .ok (.bipush 6, 2) := by decide +kernel
theorem dX12_run_153 : decode cX12_run 153 = .ok (.iload 8, 2) := by decide +kernel
theorem dX12_run_155 : decode cX12_run 155 = .ok (.imul, 1) := by decide +kernel
theorem dX12_run_156 : decode cX12_run 156 = .ok (.iload 12, 2) := by decide +kernel
theorem dX12_run_158 : decode cX12_run 158 = .ok (.iadd, 1) := by decide +kernel
theorem dX12_run_159 : decode cX12_run 159 = .ok (.iaload, 1) := by decide +kernel
theorem dX12_run_160 : decode cX12_run 160 = .ok (.istore 13, 2) := by decide +kernel
theorem dX12_run_162 : decode cX12_run 162 = .ok (.iconst 0, 1) := by decide +kernel
theorem dX12_run_163 : decode cX12_run 163 = .ok (.istore 14, 2) := by decide +kernel
theorem dX12_run_165 : decode cX12_run 165 = .ok (.iload 14, 2) := by decide +kernel
theorem dX12_run_167 : decode cX12_run 167 = .ok (.ifCond .ne 101, 3) := by decide +kernel
theorem dX12_run_170 : decode cX12_run 170 = .ok (.iload 10, 2) := by decide +kernel
theorem dX12_run_172 : decode cX12_run 172 = .ok (.ifCond .ne 96, 3) := by decide +kernel
theorem dX12_run_175 : decode cX12_run 175 = .ok (.aload_n 0, 1) := by decide +kernel
theorem dX12_run_176 : decode cX12_run 176 = .ok (.getfield 105, 3) := by decide +kernel
theorem dX12_run_179 : decode cX12_run 179 = .ok (.iload 13, 2) := by decide +kernel
theorem dX12_run_181 : decode cX12_run 181 = .ok (.iaload, 1) := by decide +kernel
theorem dX12_run_182 : decode cX12_run 182 = .ok (.ifCond .ne 9, 3) := by decide +kernel
theorem dX12_run_185 : decode cX12_run 185 = .ok (.iconst 3, 1) := by decide +kernel
theorem dX12_run_186 : decode cX12_run 186 = .ok (.istore 10, 2) := by decide +kernel
theorem dX12_run_188 : decode cX12_run 188 = .ok (.goto (-23), 3) := by decide +kernel
theorem dX12_run_191 : decode cX12_run 191 = .ok (.aload_n 0, 1) := by decide +kernel
theorem dX12_run_192 : decode cX12_run 192 = .ok (.getfield 105, 3) := by decide +kernel
theorem dX12_run_195 : decode cX12_run 195 = .ok (.iload 13, 2) := by decide +kernel
theorem dX12_run_197 : decode cX12_run 197 = .ok (.dup2, 1) := by decide +kernel
theorem dX12_run_198 : decode cX12_run 198 = .ok (.iaload, 1) := by decide +kernel
theorem dX12_run_199 : decode cX12_run 199 = .ok (.iconst 1, 1) := by decide +kernel
theorem dX12_run_200 : decode cX12_run 200 = .ok (.isub, 1) := by decide +kernel
theorem dX12_run_201 : decode cX12_run 201 = .ok (.iastore, 1) := by decide +kernel
theorem dX12_run_202 : decode cX12_run 202 = .ok (.iinc 11 1, 3) := by decide +kernel
theorem dX12_run_205 : decode cX12_run 205 = .ok (.iload 9, 2) := by decide +kernel
theorem dX12_run_207 : decode cX12_run 207 = .ok (.aload_n 0, 1) := by decide +kernel
theorem dX12_run_208 : decode cX12_run 208 = .ok (.getfield 390, 3) := by decide +kernel
theorem dX12_run_211 : decode cX12_run 211 = .ok (.aload_n 0, 1) := by decide +kernel
theorem dX12_run_212 : decode cX12_run 212 = .ok (.getfield 108, 3) := by decide +kernel
theorem dX12_run_215 : decode cX12_run 215 = .ok (.aload_n 0, 1) := by decide +kernel
theorem dX12_run_216 : decode cX12_run 216 = .ok (.iload 8, 2) := by decide +kernel
theorem dX12_run_218 : decode cX12_run 218 = .ok (.iload 12, 2) := by decide +kernel
theorem dX12_run_220 : decode cX12_run 220 = .ok (.invokevirtual 402, 3) := by decide +kernel
theorem dX12_run_223 : decode cX12_run 223 = .ok (.imul, 1) := by decide +kernel
theorem dX12_run_224 : decode cX12_run 224 = .ok (.iadd, 1) := by decide +kernel
theorem dX12_run_225 : decode cX12_run 225 = .ok (.iadd, 1) := by decide +kernel
theorem dX12_run_226 : decode cX12_run 226 = .ok (.istore 9, 2) := by decide +kernel
theorem dX12_run_228 : decode cX12_run 228 = .ok (.lload_n 3, 1) := by decide +kernel
theorem dX12_run_229 : decode cX12_run 229 = .ok (.ldc2_w 405, 3) := by decide +kernel
theorem dX12_run_232 : decode cX12_run 232 = .ok (.lmul, 1) := by decide +kernel
theorem dX12_run_233 : decode cX12_run 233 = .ok (.ldc2_w 407, 3) := by decide +kernel
theorem dX12_run_236 : decode cX12_run 236 = .ok (.ladd, 1) := by decide +kernel
theorem dX12_run_237 : decode cX12_run 237 = .ok (.lstore_n 3, 1) := by decide +kernel
theorem dX12_run_238 : decode cX12_run 238 = .ok (.lload_n 3, 1) := by decide +kernel
theorem dX12_run_239 : decode cX12_run 239 = .ok (.bipush 33, 2) := by decide +kernel
theorem dX12_run_241 : decode cX12_run 241 = .ok (.lushr, 1) := by decide +kernel
theorem dX12_run_242 : decode cX12_run 242 = .ok (.ldc2_w 409, 3) := by decide +kernel
theorem dX12_run_245 : decode cX12_run 245 = .ok (.lrem, 1) := by decide +kernel
theorem dX12_run_246 : decode cX12_run 246 = .ok (.aload_n 0, 1) := by decide +kernel
theorem dX12_run_247 : decode cX12_run 247 = .ok (.getfield 16, 3) := by decide +kernel
theorem dX12_run_250 : decode cX12_run 250 = .ok (.iload 13, 2) := by decide +kernel
theorem dX12_run_252 : decode cX12_run 252 = .ok (.iaload, 1) := by decide +kernel
theorem dX12_run_253 : decode cX12_run 253 = .ok (.i2l, 1) := by decide +kernel
theorem dX12_run_254 : decode cX12_run 254 = .ok (.lcmp, 1) := by decide +kernel
theorem dX12_run_255 : decode cX12_run 255 = .ok (.ifCond .lt 7, 3) := by decide +kernel
theorem dX12_run_258 : decode cX12_run 258 = .ok (.iconst 1, 1) := by decide +kernel
theorem dX12_run_259 : decode cX12_run 259 = .ok (.goto 4, 3) := by decide +kernel
theorem dX12_run_262 : decode cX12_run 262 = .ok (.iconst 0, 1) := by decide +kernel
theorem dX12_run_263 : decode cX12_run 263 = .ok (.istore 14, 2) := by decide +kernel
theorem dX12_run_265 : decode cX12_run 265 = .ok (.goto (-100), 3) := by decide +kernel
theorem dX12_run_268 : decode cX12_run 268 = .ok (.iinc 12 1, 3) := by decide +kernel
theorem dX12_run_271 : decode cX12_run 271 = .ok (.goto (-141), 3) := by decide +kernel
theorem dX12_run_274 : decode cX12_run 274 = .ok (.aload_n 0, 1) := by decide +kernel
theorem dX12_run_275 : decode cX12_run 275 = .ok (.getfield 102, 3) := by decide +kernel
theorem dX12_run_278 : decode cX12_run 278 = .ok (.iconst 4, 1) := by decide +kernel
theorem dX12_run_279 : decode cX12_run 279 = .ok (.iload 7, 2) := by decide +kernel
theorem dX12_run_281 : decode cX12_run 281 = .ok (.imul, 1) := by decide +kernel
theorem dX12_run_282 : decode cX12_run 282 = .ok (.iload 10, 2) := by decide +kernel
theorem dX12_run_284 : decode cX12_run 284 = .ok (.iastore, 1) := by decide +kernel
theorem dX12_run_285 : decode cX12_run 285 = .ok (.aload_n 0, 1) := by decide +kernel
theorem dX12_run_286 : decode cX12_run 286 = .ok (.getfield 102, 3) := by decide +kernel
theorem dX12_run_289 : decode cX12_run 289 = .ok (.iconst 4, 1) := by decide +kernel
theorem dX12_run_290 : decode cX12_run 290 = .ok (.iload 7, 2) := by decide +kernel
theorem dX12_run_292 : decode cX12_run 292 = .ok (.imul, 1) := by decide +kernel
theorem dX12_run_293 : decode cX12_run 293 = .ok (.iconst 2, 1) := by decide +kernel
theorem dX12_run_294 : decode cX12_run 294 = .ok (.iadd, 1) := by decide +kernel
theorem dX12_run_295 : decode cX12_run 295 = .ok (.iload 9, 2) := by decide +kernel
theorem dX12_run_297 : decode cX12_run 297 = .ok (.iastore, 1) := by decide +kernel
theorem dX12_run_298 : decode cX12_run 298 = .ok (.aload_n 0, 1) := by decide +kernel
theorem dX12_run_299 : decode cX12_run 299 = .ok (.getfield 102, 3) := by decide +kernel
theorem dX12_run_302 : decode cX12_run 302 = .ok (.iconst 4, 1) := by decide +kernel
theorem dX12_run_303 : decode cX12_run 303 = .ok (.iload 7, 2) := by decide +kernel
theorem dX12_run_305 : decode cX12_run 305 = .ok (.imul, 1) := by decide +kernel
theorem dX12_run_306 : decode cX12_run 306 = .ok (.iconst 3, 1) := by decide +kernel
theorem dX12_run_307 : decode cX12_run 307 = .ok (.iadd, 1) := by decide +kernel
theorem dX12_run_308 : decode cX12_run 308 = .ok (.iload 11, 2) := by decide +kernel
theorem dX12_run_310 : decode cX12_run 310 = .ok (.iastore, 1) := by decide +kernel
theorem dX12_run_311 : decode cX12_run 311 = .ok (.iload 6, 2) := by decide +kernel
theorem dX12_run_313 : decode cX12_run 313 = .ok (.iload 10, 2) := by decide +kernel
theorem dX12_run_315 : decode cX12_run 315 = .ok (.ifCond .ne 7, 3) := by decide +kernel
theorem dX12_run_318 : decode cX12_run 318 = .ok (.iconst 1, 1) := by decide +kernel
theorem dX12_run_319 : decode cX12_run 319 = .ok (.goto 4, 3) := by decide +kernel
theorem dX12_run_322 : decode cX12_run 322 = .ok (.iconst 0, 1) := by decide +kernel
theorem dX12_run_323 : decode cX12_run 323 = .ok (.iadd, 1) := by decide +kernel
theorem dX12_run_324 : decode cX12_run 324 = .ok (.istore 6, 2) := by decide +kernel
theorem dX12_run_326 : decode cX12_run 326 = .ok (.iload 9, 2) := by decide +kernel
theorem dX12_run_328 : decode cX12_run 328 = .ok (.istore 5, 2) := by decide +kernel
theorem dX12_run_330 : decode cX12_run 330 = .ok (.iinc 7 1, 3) := by decide +kernel
theorem dX12_run_333 : decode cX12_run 333 = .ok (.goto (-294), 3) := by decide +kernel
theorem dX12_run_336 : decode cX12_run 336 = .ok (.aload_n 0, 1) := by decide +kernel
theorem dX12_run_337 : decode cX12_run 337 = .ok (.aload_n 0, 1) := by decide +kernel
theorem dX12_run_338 : decode cX12_run 338 = .ok (.getfield 393, 3) := by decide +kernel
theorem dX12_run_341 : decode cX12_run 341 = .ok (.putfield 396, 3) := by decide +kernel
theorem dX12_run_344 : decode cX12_run 344 = .ok (.iload 6, 2) := by decide +kernel
theorem dX12_run_346 : decode cX12_run 346 = .ok (.ireturn, 1) := by decide +kernel
theorem dX12_guest_0 : decode cX12_guest 0 = .ok (.aload_n 0, 1) := by decide +kernel
theorem dX12_guest_1 : decode cX12_guest 1 = .ok (.iload_n 1, 1) := by decide +kernel
theorem dX12_guest_2 : decode cX12_guest 2 = .ok (.iconst 0, 1) := by decide +kernel
theorem dX12_guest_3 : decode cX12_guest 3 = .ok (.aload_n 0, 1) := by decide +kernel
theorem dX12_guest_4 : decode cX12_guest 4 = .ok (.getfield 396, 3) := by decide +kernel
theorem dX12_guest_7 : decode cX12_guest 7 = .ok (.iconst 1, 1) := by decide +kernel
theorem dX12_guest_8 : decode cX12_guest 8 = .ok (.isub, 1) := by decide +kernel
theorem dX12_guest_9 : decode cX12_guest 9 = .ok (.invokestatic 121, 3) := by decide +kernel
theorem dX12_guest_12 : decode cX12_guest 12 = .ok (.ifCond .eq 16, 3) := by decide +kernel
theorem dX12_guest_15 : decode cX12_guest 15 = .ok (.iload_n 2, 1) := by decide +kernel
theorem dX12_guest_16 : decode cX12_guest 16 = .ok (.iconst 0, 1) := by decide +kernel
theorem dX12_guest_17 : decode cX12_guest 17 = .ok (.iconst 3, 1) := by decide +kernel
theorem dX12_guest_18 : decode cX12_guest 18 = .ok (.invokestatic 121, 3) := by decide +kernel
theorem dX12_guest_21 : decode cX12_guest 21 = .ok (.ifCond .eq 7, 3) := by decide +kernel
theorem dX12_guest_24 : decode cX12_guest 24 = .ok (.iconst 0, 1) := by decide +kernel
theorem dX12_guest_25 : decode cX12_guest 25 = .ok (.goto 4, 3) := by decide +kernel
theorem dX12_guest_28 : decode cX12_guest 28 = .ok (.iconst 1, 1) := by decide +kernel
theorem dX12_guest_29 : decode cX12_guest 29 = .ok (.putfield 118, 3) := by decide +kernel
theorem dX12_guest_32 : decode cX12_guest 32 = .ok (.aload_n 0, 1) := by decide +kernel
theorem dX12_guest_33 : decode cX12_guest 33 = .ok (.getfield 118, 3) := by decide +kernel
theorem dX12_guest_36 : decode cX12_guest 36 = .ok (.iconst 1, 1) := by decide +kernel
theorem dX12_guest_37 : decode cX12_guest 37 = .ok (.if_icmp .ne 7, 3) := by decide +kernel
theorem dX12_guest_40 : decode cX12_guest 40 = .ok (.iconst 0, 1) := by decide +kernel
theorem dX12_guest_41 : decode cX12_guest 41 = .ok (.goto 13, 3) := by decide +kernel
theorem dX12_guest_44 : decode cX12_guest 44 = .ok (.aload_n 0, 1) := by decide +kernel
theorem dX12_guest_45 : decode cX12_guest 45 = .ok (.getfield 102, 3) := by decide +kernel
theorem dX12_guest_48 : decode cX12_guest 48 = .ok (.iconst 4, 1) := by decide +kernel
theorem dX12_guest_49 : decode cX12_guest 49 = .ok (.iload_n 1, 1) := by decide +kernel
theorem dX12_guest_50 : decode cX12_guest 50 = .ok (.imul, 1) := by decide +kernel
theorem dX12_guest_51 : decode cX12_guest 51 = .ok (.iload_n 2, 1) := by decide +kernel
theorem dX12_guest_52 : decode cX12_guest 52 = .ok (.iadd, 1) := by decide +kernel
theorem dX12_guest_53 : decode cX12_guest 53 = .ok (.iaload, 1) := by decide +kernel
theorem dX12_guest_54 : decode cX12_guest 54 = .ok (.ireturn, 1) := by decide +kernel
theorem dX12_startAging_0 : decode cX12_startAging 0 = .ok (.aload_n 0, 1) := by decide +kernel
theorem dX12_startAging_1 : decode cX12_startAging 1 = .ok (.aload_n 0, 1) := by decide +kernel
theorem dX12_startAging_2 : decode cX12_startAging 2 = .ok (.iload_n 1, 1) := by decide +kernel
theorem dX12_startAging_3 : decode cX12_startAging 3 = .ok (.invokevirtual 287, 3) := by decide +kernel
theorem dX12_startAging_6 : decode cX12_startAging 6 = .ok (.putfield 411, 3) := by decide +kernel
theorem dX12_startAging_9 : decode cX12_startAging 9 = .ok (.iconst 0, 1) := by decide +kernel
theorem dX12_startAging_10 : decode cX12_startAging 10 = .ok (.istore_n 2, 1) := by decide +kernel
theorem dX12_startAging_11 : decode cX12_startAging 11 = .ok (.iload_n 2, 1) := by decide +kernel
theorem dX12_startAging_12 : decode cX12_startAging 12 = .ok (.aload_n 0, 1) := by decide +kernel
theorem dX12_startAging_13 : decode cX12_startAging 13 = .ok (.getfield 31, 3) := by decide +kernel
theorem dX12_startAging_16 : decode cX12_startAging 16 = .ok (.iload_n 1, 1) := by decide +kernel
theorem dX12_startAging_17 : decode cX12_startAging 17 = .ok (.iaload, 1) := by decide +kernel
theorem dX12_startAging_18 : decode cX12_startAging 18 = .ok (.if_icmp .ge 26, 3) := by decide +kernel
theorem dX12_startAging_21 : decode cX12_startAging 21 = .ok (.aload_n 0, 1) := by decide +kernel
theorem dX12_startAging_22 : decode cX12_startAging 22 = .ok (.getfield 112, 3) := by decide +kernel
theorem dX12_startAging_25 : decode cX12_startAging 25 = .ok (.iload_n 2, 1) := by decide +kernel
theorem dX12_startAging_26 : decode cX12_startAging 26 = .ok (.aload_n 0, 1) := by decide +kernel
theorem dX12_startAging_27 : decode cX12_startAging 27 = .ok (.getfield 37, 3) := by decide +kernel
theorem dX12_startAging_30 : decode cX12_startAging 30 = .ok (.bipush 24, 2) := by decide +kernel
theorem dX12_startAging_32 : decode cX12_startAging 32 = .ok (.iload_n 1, 1) := by decide +kernel
theorem dX12_startAging_33 : decode cX12_startAging 33 = .ok (.imul, 1) := by decide +kernel
theorem dX12_startAging_34 : decode cX12_startAging 34 = .ok (.iload_n 2, 1) := by decide +kernel
theorem dX12_startAging_35 : decode cX12_startAging 35 = .ok (.iadd, 1) := by decide +kernel
theorem dX12_startAging_36 : decode cX12_startAging 36 = .ok (.iaload, 1) := by decide +kernel
theorem dX12_startAging_37 : decode cX12_startAging 37 = .ok (.iastore, 1) := by decide +kernel
theorem dX12_startAging_38 : decode cX12_startAging 38 = .ok (.iinc 2 1, 3) := by decide +kernel
theorem dX12_startAging_41 : decode cX12_startAging 41 = .ok (.goto (-30), 3) := by decide +kernel
theorem dX12_startAging_44 : decode cX12_startAging 44 = .ok (.return_, 1) := by decide +kernel
theorem dX12_age_0 : decode cX12_age 0 = .ok (.iconst 0, 1) := by decide +kernel
theorem dX12_age_1 : decode cX12_age 1 = .ok (.istore 4, 2) := by decide +kernel
theorem dX12_age_3 : decode cX12_age 3 = .ok (.iload 4, 2) := by decide +kernel
theorem dX12_age_5 : decode cX12_age 5 = .ok (.aload_n 0, 1) := by decide +kernel
theorem dX12_age_6 : decode cX12_age 6 = .ok (.getfield 31, 3) := by decide +kernel
theorem dX12_age_9 : decode cX12_age 9 = .ok (.iload_n 1, 1) := by decide +kernel
theorem dX12_age_10 : decode cX12_age 10 = .ok (.iaload, 1) := by decide +kernel
theorem dX12_age_11 : decode cX12_age 11 = .ok (.if_icmp .ge 146, 3) := by decide +kernel
theorem dX12_age_14 : decode cX12_age 14 = .ok (.aload_n 0, 1) := by decide +kernel
theorem dX12_age_15 : decode cX12_age 15 = .ok (.getfield 411, 3) := by decide +kernel
theorem dX12_age_18 : decode cX12_age 18 = .ok (.iload 4, 2) := by decide +kernel
theorem dX12_age_20 : decode cX12_age 20 = .ok (.ishr, 1) := by decide +kernel
theorem dX12_age_21 : decode cX12_age 21 = .ok (.iconst 1, 1) := by decide +kernel
theorem dX12_age_22 : decode cX12_age 22 = .ok (.iand, 1) := by decide +kernel
theorem dX12_age_23 : decode cX12_age 23 = .ok (.iconst 1, 1) := by decide +kernel
theorem dX12_age_24 : decode cX12_age 24 = .ok (.if_icmp .ne 119, 3) := by decide +kernel
theorem dX12_age_27 : decode cX12_age 27 = .ok (.bipush 24, 2) := by decide +kernel
theorem dX12_age_29 : decode cX12_age 29 = .ok (.iload_n 1, 1) := by decide +kernel
theorem dX12_age_30 : decode cX12_age 30 = .ok (.imul, 1) := by decide +kernel
theorem dX12_age_31 : decode cX12_age 31 = .ok (.iload 4, 2) := by decide +kernel
theorem dX12_age_33 : decode cX12_age 33 = .ok (.iadd, 1) := by decide +kernel
theorem dX12_age_34 : decode cX12_age 34 = .ok (.istore 5, 2) := by decide +kernel
theorem dX12_age_36 : decode cX12_age 36 = .ok (.aload_n 0, 1) := by decide +kernel
theorem dX12_age_37 : decode cX12_age 37 = .ok (.getfield 28, 3) := by decide +kernel
theorem dX12_age_40 : decode cX12_age 40 = .ok (.bipush 6, 2) := by decide +kernel
theorem dX12_age_42 : decode cX12_age 42 = .ok (.iload_n 1, 1) := by decide +kernel
theorem dX12_age_43 : decode cX12_age 43 = .ok (.imul, 1) := by decide +kernel
theorem dX12_age_44 : decode cX12_age 44 = .ok (.aload_n 0, 1) := by decide +kernel
theorem dX12_age_45 : decode cX12_age 45 = .ok (.getfield 46, 3) := by decide +kernel
theorem dX12_age_48 : decode cX12_age 48 = .ok (.iload 5, 2) := by decide +kernel
theorem dX12_age_50 : decode cX12_age 50 = .ok (.iaload, 1) := by decide +kernel
theorem dX12_age_51 : decode cX12_age 51 = .ok (.iadd, 1) := by decide +kernel
theorem dX12_age_52 : decode cX12_age 52 = .ok (.iaload, 1) := by decide +kernel
theorem dX12_age_53 : decode cX12_age 53 = .ok (.istore 6, 2) := by decide +kernel
theorem dX12_age_55 : decode cX12_age 55 = .ok (.aload_n 0, 1) := by decide +kernel
theorem dX12_age_56 : decode cX12_age 56 = .ok (.iload_n 1, 1) := by decide +kernel
theorem dX12_age_57 : decode cX12_age 57 = .ok (.aload_n 0, 1) := by decide +kernel
theorem dX12_age_58 : decode cX12_age 58 = .ok (.getfield 40, 3) := by decide +kernel
theorem dX12_age_61 : decode cX12_age 61 = .ok (.iload 5, 2) := by decide +kernel
theorem dX12_age_63 : decode cX12_age 63 = .ok (.iaload, 1) := by decide +kernel
theorem dX12_age_64 : decode cX12_age 64 = .ok (.aload_n 0, 1) := by decide +kernel
theorem dX12_age_65 : decode cX12_age 65 = .ok (.getfield 411, 3) := by decide +kernel
theorem dX12_age_68 : decode cX12_age 68 = .ok (.invokevirtual 290, 3) := by decide +kernel
theorem dX12_age_71 : decode cX12_age 71 = .ok (.aload_n 0, 1) := by decide +kernel
theorem dX12_age_72 : decode cX12_age 72 = .ok (.iload_n 1, 1) := by decide +kernel
theorem dX12_age_73 : decode cX12_age 73 = .ok (.aload_n 0, 1) := by decide +kernel
theorem dX12_age_74 : decode cX12_age 74 = .ok (.getfield 43, 3) := by decide +kernel
theorem dX12_age_77 : decode cX12_age 77 = .ok (.iload 5, 2) := by decide +kernel
theorem dX12_age_79 : decode cX12_age 79 = .ok (.iaload, 1) := by decide +kernel
theorem dX12_age_80 : decode cX12_age 80 = .ok (.aload_n 0, 1) := by decide +kernel
theorem dX12_age_81 : decode cX12_age 81 = .ok (.getfield 411, 3) := by decide +kernel
theorem dX12_age_84 : decode cX12_age 84 = .ok (.invokevirtual 290, 3) := by decide +kernel
theorem dX12_age_87 : decode cX12_age 87 = .ok (.iadd, 1) := by decide +kernel
theorem dX12_age_88 : decode cX12_age 88 = .ok (.istore 7, 2) := by decide +kernel
theorem dX12_age_90 : decode cX12_age 90 = .ok (.aload_n 0, 1) := by decide +kernel
theorem dX12_age_91 : decode cX12_age 91 = .ok (.getfield 115, 3) := by decide +kernel
theorem dX12_age_94 : decode cX12_age 94 = .ok (.iload 4, 2) := by decide +kernel
theorem dX12_age_96 : decode cX12_age 96 = .ok (.iconst 0, 1) := by decide +kernel
theorem dX12_age_97 : decode cX12_age 97 = .ok (.aload_n 0, 1) := by decide +kernel
theorem dX12_age_98 : decode cX12_age 98 = .ok (.getfield 112, 3) := by decide +kernel
theorem dX12_age_101 : decode cX12_age 101 = .ok (.iload 4, 2) := by decide +kernel
theorem dX12_age_103 : decode cX12_age 103 = .ok (.iaload, 1) := by decide +kernel
theorem dX12_age_104 : decode cX12_age 104 = .ok (.aload_n 0, 1) := by decide +kernel
theorem dX12_age_105 : decode cX12_age 105 = .ok (.iload_n 2, 1) := by decide +kernel
theorem dX12_age_106 : decode cX12_age 106 = .ok (.aload_n 0, 1) := by decide +kernel
theorem dX12_age_107 : decode cX12_age 107 = .ok (.getfield 112, 3) := by decide +kernel
theorem dX12_age_110 : decode cX12_age 110 = .ok (.iload 4, 2) := by decide +kernel
theorem dX12_age_112 : decode cX12_age 112 = .ok (.iaload, 1) := by decide +kernel
theorem dX12_age_113 : decode cX12_age 113 = .ok (.iload_n 3, 1) := by decide +kernel
theorem dX12_age_114 : decode cX12_age 114 = .ok (.iload 7, 2) := by decide +kernel
theorem dX12_age_116 : decode cX12_age 116 = .ok (.aload_n 0, 1) := by decide +kernel
theorem dX12_age_117 : decode cX12_age 117 = .ok (.getfield 13, 3) := by decide +kernel
theorem dX12_age_120 : decode cX12_age 120 = .ok (.iload 6, 2) := by decide +kernel
theorem dX12_age_122 : decode cX12_age 122 = .ok (.iaload, 1) := by decide +kernel
theorem dX12_age_123 : decode cX12_age 123 = .ok (.aload_n 0, 1) := by decide +kernel
theorem dX12_age_124 : decode cX12_age 124 = .ok (.getfield 9, 3) := by decide +kernel
theorem dX12_age_127 : decode cX12_age 127 = .ok (.iload 6, 2) := by decide +kernel
theorem dX12_age_129 : decode cX12_age 129 = .ok (.iaload, 1) := by decide +kernel
theorem dX12_age_130 : decode cX12_age 130 = .ok (.invokevirtual 281, 3) := by decide +kernel
theorem dX12_age_133 : decode cX12_age 133 = .ok (.invokestatic 155, 3) := by decide +kernel
theorem dX12_age_136 : decode cX12_age 136 = .ok (.invokestatic 149, 3) := by decide +kernel
theorem dX12_age_139 : decode cX12_age 139 = .ok (.iastore, 1) := by decide +kernel
theorem dX12_age_140 : decode cX12_age 140 = .ok (.goto 11, 3) := by decide +kernel
theorem dX12_age_143 : decode cX12_age 143 = .ok (.aload_n 0, 1) := by decide +kernel
theorem dX12_age_144 : decode cX12_age 144 = .ok (.getfield 115, 3) := by decide +kernel
theorem dX12_age_147 : decode cX12_age 147 = .ok (.iload 4, 2) := by decide +kernel
theorem dX12_age_149 : decode cX12_age 149 = .ok (.iconst 0, 1) := by decide +kernel
theorem dX12_age_150 : decode cX12_age 150 = .ok (.iastore, 1) := by decide +kernel
theorem dX12_age_151 : decode cX12_age 151 = .ok (.iinc 4 1, 3) := by decide +kernel
theorem dX12_age_154 : decode cX12_age 154 = .ok (.goto (-151), 3) := by decide +kernel
theorem dX12_age_157 : decode cX12_age 157 = .ok (.aload_n 0, 1) := by decide +kernel
theorem dX12_age_158 : decode cX12_age 158 = .ok (.getfield 411, 3) := by decide +kernel
theorem dX12_age_161 : decode cX12_age 161 = .ok (.istore 4, 2) := by decide +kernel
theorem dX12_age_163 : decode cX12_age 163 = .ok (.iconst 0, 1) := by decide +kernel
theorem dX12_age_164 : decode cX12_age 164 = .ok (.istore 5, 2) := by decide +kernel
theorem dX12_age_166 : decode cX12_age 166 = .ok (.iload 5, 2) := by decide +kernel
theorem dX12_age_168 : decode cX12_age 168 = .ok (.aload_n 0, 1) := by decide +kernel
theorem dX12_age_169 : decode cX12_age 169 = .ok (.getfield 31, 3) := by decide +kernel
theorem dX12_age_172 : decode cX12_age 172 = .ok (.iload_n 1, 1) := by decide +kernel
theorem dX12_age_173 : decode cX12_age 173 = .ok (.iaload, 1) := by decide +kernel
theorem dX12_age_174 : decode cX12_age 174 = .ok (.if_icmp .ge 51, 3) := by decide +kernel
theorem dX12_age_177 : decode cX12_age 177 = .ok (.aload_n 0, 1) := by decide +kernel
theorem dX12_age_178 : decode cX12_age 178 = .ok (.getfield 112, 3) := by decide +kernel
theorem dX12_age_181 : decode cX12_age 181 = .ok (.iload 5, 2) := by decide +kernel
theorem dX12_age_183 : decode cX12_age 183 = .ok (.dup2, 1) := by decide +kernel
theorem dX12_age_184 : decode cX12_age 184 = .ok (.iaload, 1) := by decide +kernel
theorem dX12_age_185 : decode cX12_age 185 = .ok (.aload_n 0, 1) := by decide +kernel
theorem dX12_age_186 : decode cX12_age 186 = .ok (.getfield 115, 3) := by decide +kernel
theorem dX12_age_189 : decode cX12_age 189 = .ok (.iload 5, 2) := by decide +kernel
theorem dX12_age_191 : decode cX12_age 191 = .ok (.iaload, 1) := by decide +kernel
theorem dX12_age_192 : decode cX12_age 192 = .ok (.isub, 1) := by decide +kernel
theorem dX12_age_193 : decode cX12_age 193 = .ok (.iastore, 1) := by decide +kernel
theorem dX12_age_194 : decode cX12_age 194 = .ok (.iload 4, 2) := by decide +kernel
theorem dX12_age_196 : decode cX12_age 196 = .ok (.aload_n 0, 1) := by decide +kernel
theorem dX12_age_197 : decode cX12_age 197 = .ok (.getfield 112, 3) := by decide +kernel
theorem dX12_age_200 : decode cX12_age 200 = .ok (.iload 5, 2) := by decide +kernel
theorem dX12_age_202 : decode cX12_age 202 = .ok (.iaload, 1) := by decide +kernel
theorem dX12_age_203 : decode cX12_age 203 = .ok (.ifCond .ne 12, 3) := by decide +kernel
theorem dX12_age_206 : decode cX12_age 206 = .ok (.iconst 1, 1) := by decide +kernel
theorem dX12_age_207 : decode cX12_age 207 = .ok (.iload 5, 2) := by decide +kernel
theorem dX12_age_209 : decode cX12_age 209 = .ok (.ishl, 1) := by decide +kernel
theorem dX12_age_210 : decode cX12_age 210 = .ok (.iconst (-1), 1) := by decide +kernel
theorem dX12_age_211 : decode cX12_age 211 = .ok (.ixor, 1) := by decide +kernel
theorem dX12_age_212 : decode cX12_age 212 = .ok (.goto 4, 3) := by decide +kernel
theorem dX12_age_215 : decode cX12_age 215 = .ok (.iconst (-1), 1) := by decide +kernel
theorem dX12_age_216 : decode cX12_age 216 = .ok (.iand, 1) := by decide +kernel
theorem dX12_age_217 : decode cX12_age 217 = .ok (.istore 4, 2) := by decide +kernel
theorem dX12_age_219 : decode cX12_age 219 = .ok (.iinc 5 1, 3) := by decide +kernel
theorem dX12_age_222 : decode cX12_age 222 = .ok (.goto (-56), 3) := by decide +kernel
theorem dX12_age_225 : decode cX12_age 225 = .ok (.aload_n 0, 1) := by decide +kernel
theorem dX12_age_226 : decode cX12_age 226 = .ok (.aload_n 0, 1) := by decide +kernel
theorem dX12_age_227 : decode cX12_age 227 = .ok (.iload_n 1, 1) := by decide +kernel
theorem dX12_age_228 : decode cX12_age 228 = .ok (.iload 4, 2) := by decide +kernel
theorem dX12_age_230 : decode cX12_age 230 = .ok (.invokevirtual 333, 3) := by decide +kernel
theorem dX12_age_233 : decode cX12_age 233 = .ok (.putfield 411, 3) := by decide +kernel
theorem dX12_age_236 : decode cX12_age 236 = .ok (.iconst 0, 1) := by decide +kernel
theorem dX12_age_237 : decode cX12_age 237 = .ok (.istore 5, 2) := by decide +kernel
theorem dX12_age_239 : decode cX12_age 239 = .ok (.iload 5, 2) := by decide +kernel
theorem dX12_age_241 : decode cX12_age 241 = .ok (.aload_n 0, 1) := by decide +kernel
theorem dX12_age_242 : decode cX12_age 242 = .ok (.getfield 31, 3) := by decide +kernel
theorem dX12_age_245 : decode cX12_age 245 = .ok (.iload_n 1, 1) := by decide +kernel
theorem dX12_age_246 : decode cX12_age 246 = .ok (.iaload, 1) := by decide +kernel
theorem dX12_age_247 : decode cX12_age 247 = .ok (.if_icmp .ge 40, 3) := by decide +kernel
theorem dX12_age_250 : decode cX12_age 250 = .ok (.aload_n 0, 1) := by decide +kernel
theorem dX12_age_251 : decode cX12_age 251 = .ok (.getfield 112, 3) := by decide +kernel
theorem dX12_age_254 : decode cX12_age 254 = .ok (.iload 5, 2) := by decide +kernel
theorem dX12_age_256 : decode cX12_age 256 = .ok (.aload_n 0, 1) := by decide +kernel
theorem dX12_age_257 : decode cX12_age 257 = .ok (.getfield 411, 3) := by decide +kernel
theorem dX12_age_260 : decode cX12_age 260 = .ok (.iload 5, 2) := by decide +kernel
theorem dX12_age_262 : decode cX12_age 262 = .ok (.ishr, 1) := by decide +kernel
theorem dX12_age_263 : decode cX12_age 263 = .ok (.iconst 1, 1) := by decide +kernel
theorem dX12_age_264 : decode cX12_age 264 = .ok (.iand, 1) := by decide +kernel
theorem dX12_age_265 : decode cX12_age 265 = .ok (.iconst 1, 1) := by decide +kernel
theorem dX12_age_266 : decode cX12_age 266 = .ok (.if_icmp .ne 13, 3) := by decide +kernel
theorem dX12_age_269 : decode cX12_age 269 = .ok (.aload_n 0, 1) := by decide +kernel
theorem dX12_age_270 : decode cX12_age 270 = .ok (.getfield 112, 3) := by decide +kernel
theorem dX12_age_273 : decode cX12_age 273 = .ok (.iload 5, 2) := by decide +kernel
theorem dX12_age_275 : decode cX12_age 275 = .ok (.iaload, 1) := by decide +kernel
theorem dX12_age_276 : decode cX12_age 276 = .ok (.goto 4, 3) := by decide +kernel
theorem dX12_age_279 : decode cX12_age 279 = .ok (.iconst 0, 1) := by decide +kernel
theorem dX12_age_280 : decode cX12_age 280 = .ok (.iastore, 1) := by decide +kernel
theorem dX12_age_281 : decode cX12_age 281 = .ok (.iinc 5 1, 3) := by decide +kernel
theorem dX12_age_284 : decode cX12_age 284 = .ok (.goto (-45), 3) := by decide +kernel
theorem dX12_age_287 : decode cX12_age 287 = .ok (.return_, 1) := by decide +kernel
theorem dX12_aged_0 : decode cX12_aged 0 = .ok (.aload_n 0, 1) := by decide +kernel
theorem dX12_aged_1 : decode cX12_aged 1 = .ok (.iload_n 1, 1) := by decide +kernel
theorem dX12_aged_2 : decode cX12_aged 2 = .ok (.iload 4, 2) := by decide +kernel
theorem dX12_aged_4 : decode cX12_aged 4 = .ok (.invokevirtual 304, 3) := by decide +kernel
theorem dX12_aged_7 : decode cX12_aged 7 = .ok (.ifCond .eq 27, 3) := by decide +kernel
theorem dX12_aged_10 : decode cX12_aged 10 = .ok (.iload_n 2, 1) := by decide +kernel
theorem dX12_aged_11 : decode cX12_aged 11 = .ok (.iconst 0, 1) := by decide +kernel
theorem dX12_aged_12 : decode cX12_aged 12 = .ok (.aload_n 0, 1) := by decide +kernel
theorem dX12_aged_13 : decode cX12_aged 13 = .ok (.getfield 255, 3) := by decide +kernel
theorem dX12_aged_16 : decode cX12_aged 16 = .ok (.iconst 1, 1) := by decide +kernel
theorem dX12_aged_17 : decode cX12_aged 17 = .ok (.isub, 1) := by decide +kernel
theorem dX12_aged_18 : decode cX12_aged 18 = .ok (.invokestatic 121, 3) := by decide +kernel
theorem dX12_aged_21 : decode cX12_aged 21 = .ok (.ifCond .eq 13, 3) := by decide +kernel
theorem dX12_aged_24 : decode cX12_aged 24 = .ok (.iload_n 3, 1) := by decide +kernel
theorem dX12_aged_25 : decode cX12_aged 25 = .ok (.iconst 0, 1) := by decide +kernel
theorem dX12_aged_26 : decode cX12_aged 26 = .ok (.bipush 60, 2) := by decide +kernel
theorem dX12_aged_28 : decode cX12_aged 28 = .ok (.invokestatic 121, 3) := by decide +kernel
theorem dX12_aged_31 : decode cX12_aged 31 = .ok (.ifCond .ne 5, 3) := by decide +kernel
theorem dX12_aged_34 : decode cX12_aged 34 = .ok (.iconst (-1), 1) := by decide +kernel
theorem dX12_aged_35 : decode cX12_aged 35 = .ok (.ireturn, 1) := by decide +kernel
theorem dX12_aged_36 : decode cX12_aged 36 = .ok (.aload_n 0, 1) := by decide +kernel
theorem dX12_aged_37 : decode cX12_aged 37 = .ok (.iload_n 1, 1) := by decide +kernel
theorem dX12_aged_38 : decode cX12_aged 38 = .ok (.invokevirtual 414, 3) := by decide +kernel
theorem dX12_aged_41 : decode cX12_aged 41 = .ok (.iconst 1, 1) := by decide +kernel
theorem dX12_aged_42 : decode cX12_aged 42 = .ok (.istore 5, 2) := by decide +kernel
theorem dX12_aged_44 : decode cX12_aged 44 = .ok (.iload 5, 2) := by decide +kernel
theorem dX12_aged_46 : decode cX12_aged 46 = .ok (.iload_n 3, 1) := by decide +kernel
theorem dX12_aged_47 : decode cX12_aged 47 = .ok (.if_icmp .gt 17, 3) := by decide +kernel
theorem dX12_aged_50 : decode cX12_aged 50 = .ok (.aload_n 0, 1) := by decide +kernel
theorem dX12_aged_51 : decode cX12_aged 51 = .ok (.iload_n 1, 1) := by decide +kernel
theorem dX12_aged_52 : decode cX12_aged 52 = .ok (.iload_n 2, 1) := by decide +kernel
theorem dX12_aged_53 : decode cX12_aged 53 = .ok (.iload 5, 2) := by decide +kernel
theorem dX12_aged_55 : decode cX12_aged 55 = .ok (.invokevirtual 417, 3) := by decide +kernel
theorem dX12_aged_58 : decode cX12_aged 58 = .ok (.iinc 5 1, 3) := by decide +kernel
theorem dX12_aged_61 : decode cX12_aged 61 = .ok (.goto (-17), 3) := by decide +kernel
theorem dX12_aged_64 : decode cX12_aged 64 = .ok (.aload_n 0, 1) := by decide +kernel
theorem dX12_aged_65 : decode cX12_aged 65 = .ok (.getfield 112, 3) := by decide +kernel
theorem dX12_aged_68 : decode cX12_aged 68 = .ok (.iload 4, 2) := by decide +kernel
theorem dX12_aged_70 : decode cX12_aged 70 = .ok (.iaload, 1) := by decide +kernel
theorem dX12_aged_71 : decode cX12_aged 71 = .ok (.ireturn, 1) := by decide +kernel
theorem dX12_falls_0 : decode cX12_falls 0 = .ok (.aload_n 0, 1) := by decide +kernel
theorem dX12_falls_1 : decode cX12_falls 1 = .ok (.iload_n 1, 1) := by decide +kernel
theorem dX12_falls_2 : decode cX12_falls 2 = .ok (.invokevirtual 284, 3) := by decide +kernel
theorem dX12_falls_5 : decode cX12_falls 5 = .ok (.ifCond .eq 35, 3) := by decide +kernel
theorem dX12_falls_8 : decode cX12_falls 8 = .ok (.iload_n 2, 1) := by decide +kernel
theorem dX12_falls_9 : decode cX12_falls 9 = .ok (.iconst 0, 1) := by decide +kernel
theorem dX12_falls_10 : decode cX12_falls 10 = .ok (.aload_n 0, 1) := by decide +kernel
theorem dX12_falls_11 : decode cX12_falls 11 = .ok (.getfield 255, 3) := by decide +kernel
theorem dX12_falls_14 : decode cX12_falls 14 = .ok (.iconst 1, 1) := by decide +kernel
theorem dX12_falls_15 : decode cX12_falls 15 = .ok (.isub, 1) := by decide +kernel
theorem dX12_falls_16 : decode cX12_falls 16 = .ok (.invokestatic 121, 3) := by decide +kernel
theorem dX12_falls_19 : decode cX12_falls 19 = .ok (.ifCond .eq 21, 3) := by decide +kernel
theorem dX12_falls_22 : decode cX12_falls 22 = .ok (.iload_n 3, 1) := by decide +kernel
theorem dX12_falls_23 : decode cX12_falls 23 = .ok (.iconst 0, 1) := by decide +kernel
theorem dX12_falls_24 : decode cX12_falls 24 = .ok (.iconst 2, 1) := by decide +kernel
theorem dX12_falls_25 : decode cX12_falls 25 = .ok (.invokestatic 121, 3) := by decide +kernel
theorem dX12_falls_28 : decode cX12_falls 28 = .ok (.ifCond .eq 12, 3) := by decide +kernel
theorem dX12_falls_31 : decode cX12_falls 31 = .ok (.aload_n 0, 1) := by decide +kernel
theorem dX12_falls_32 : decode cX12_falls 32 = .ok (.getfield 31, 3) := by decide +kernel
theorem dX12_falls_35 : decode cX12_falls 35 = .ok (.iload_n 1, 1) := by decide +kernel
theorem dX12_falls_36 : decode cX12_falls 36 = .ok (.iaload, 1) := by decide +kernel
theorem dX12_falls_37 : decode cX12_falls 37 = .ok (.ifCond .ne 5, 3) := by decide +kernel
theorem dX12_falls_40 : decode cX12_falls 40 = .ok (.iconst (-1), 1) := by decide +kernel
theorem dX12_falls_41 : decode cX12_falls 41 = .ok (.ireturn, 1) := by decide +kernel
theorem dX12_falls_42 : decode cX12_falls 42 = .ok (.aload_n 0, 1) := by decide +kernel
theorem dX12_falls_43 : decode cX12_falls 43 = .ok (.iload_n 1, 1) := by decide +kernel
theorem dX12_falls_44 : decode cX12_falls 44 = .ok (.invokevirtual 414, 3) := by decide +kernel
theorem dX12_falls_47 : decode cX12_falls 47 = .ok (.iconst 1, 1) := by decide +kernel
theorem dX12_falls_48 : decode cX12_falls 48 = .ok (.istore 4, 2) := by decide +kernel
theorem dX12_falls_50 : decode cX12_falls 50 = .ok (.iload 4, 2) := by decide +kernel
theorem dX12_falls_52 : decode cX12_falls 52 = .ok (.bipush 60, 2) := by decide +kernel
theorem dX12_falls_54 : decode cX12_falls 54 = .ok (.if_icmp .gt 67, 3) := by decide +kernel
theorem dX12_falls_57 : decode cX12_falls 57 = .ok (.aload_n 0, 1) := by decide +kernel
theorem dX12_falls_58 : decode cX12_falls 58 = .ok (.iload_n 1, 1) := by decide +kernel
theorem dX12_falls_59 : decode cX12_falls 59 = .ok (.iload_n 2, 1) := by decide +kernel
theorem dX12_falls_60 : decode cX12_falls 60 = .ok (.iload 4, 2) := by decide +kernel
theorem dX12_falls_62 : decode cX12_falls 62 = .ok (.invokevirtual 417, 3) := by decide +kernel
theorem dX12_falls_65 : decode cX12_falls 65 = .ok (.iload_n 3, 1) := by decide +kernel
theorem dX12_falls_66 : decode cX12_falls 66 = .ok (.ifCond .ne 18, 3) := by decide +kernel
theorem dX12_falls_69 : decode cX12_falls 69 = .ok (.aload_n 0, 1) := by decide +kernel
theorem dX12_falls_70 : decode cX12_falls 70 = .ok (.getfield 411, 3) := by decide +kernel
theorem dX12_falls_73 : decode cX12_falls 73 = .ok (.aload_n 0, 1) := by decide +kernel
theorem dX12_falls_74 : decode cX12_falls 74 = .ok (.iload_n 1, 1) := by decide +kernel
theorem dX12_falls_75 : decode cX12_falls 75 = .ok (.invokevirtual 287, 3) := by decide +kernel
theorem dX12_falls_78 : decode cX12_falls 78 = .ok (.if_icmp .eq 37, 3) := by decide +kernel
theorem dX12_falls_81 : decode cX12_falls 81 = .ok (.goto 31, 3) := by decide +kernel
theorem dX12_falls_84 : decode cX12_falls 84 = .ok (.iload_n 3, 1) := by decide +kernel
theorem dX12_falls_85 : decode cX12_falls 85 = .ok (.iconst 1, 1) := by decide +kernel
theorem dX12_falls_86 : decode cX12_falls 86 = .ok (.if_icmp .ne 19, 3) := by decide +kernel
theorem dX12_falls_89 : decode cX12_falls 89 = .ok (.aload_n 0, 1) := by decide +kernel
theorem dX12_falls_90 : decode cX12_falls 90 = .ok (.iload_n 1, 1) := by decide +kernel
theorem dX12_falls_91 : decode cX12_falls 91 = .ok (.aload_n 0, 1) := by decide +kernel
theorem dX12_falls_92 : decode cX12_falls 92 = .ok (.getfield 411, 3) := by decide +kernel
theorem dX12_falls_95 : decode cX12_falls 95 = .ok (.invokevirtual 341, 3) := by decide +kernel
theorem dX12_falls_98 : decode cX12_falls 98 = .ok (.iconst 1, 1) := by decide +kernel
theorem dX12_falls_99 : decode cX12_falls 99 = .ok (.if_icmp .le 16, 3) := by decide +kernel
theorem dX12_falls_102 : decode cX12_falls 102 = .ok (.goto 10, 3) := by decide +kernel
theorem dX12_falls_105 : decode cX12_falls 105 = .ok (.aload_n 0, 1) := by decide +kernel
theorem dX12_falls_106 : decode cX12_falls 106 = .ok (.getfield 411, 3) := by decide +kernel
theorem dX12_falls_109 : decode cX12_falls 109 = .ok (.ifCond .ne 6, 3) := by decide +kernel
theorem dX12_falls_112 : decode cX12_falls 112 = .ok (.iload 4, 2) := by decide +kernel
theorem dX12_falls_114 : decode cX12_falls 114 = .ok (.ireturn, 1) := by decide +kernel
theorem dX12_falls_115 : decode cX12_falls 115 = .ok (.iinc 4 1, 3) := by decide +kernel
theorem dX12_falls_118 : decode cX12_falls 118 = .ok (.goto (-68), 3) := by decide +kernel
theorem dX12_falls_121 : decode cX12_falls 121 = .ok (.iconst (-1), 1) := by decide +kernel
theorem dX12_falls_122 : decode cX12_falls 122 = .ok (.ireturn, 1) := by decide +kernel
theorem dX12_count_0 : decode cX12_count 0 = .ok (.iload_n 1, 1) := by decide +kernel
theorem dX12_count_1 : decode cX12_count 1 = .ok (.tableswitch 60 0 4 #[35, 40, 45, 50, 55], 35) := by decide +kernel
theorem dX12_count_36 : decode cX12_count 36 = .ok (.aload_n 0, 1) := by decide +kernel
theorem dX12_count_37 : decode cX12_count 37 = .ok (.getfield 125, 3) := by decide +kernel
theorem dX12_count_40 : decode cX12_count 40 = .ok (.ireturn, 1) := by decide +kernel
theorem dX12_count_41 : decode cX12_count 41 = .ok (.aload_n 0, 1) := by decide +kernel
theorem dX12_count_42 : decode cX12_count 42 = .ok (.getfield 252, 3) := by decide +kernel
theorem dX12_count_45 : decode cX12_count 45 = .ok (.ireturn, 1) := by decide +kernel
theorem dX12_count_46 : decode cX12_count 46 = .ok (.aload_n 0, 1) := by decide +kernel
theorem dX12_count_47 : decode cX12_count 47 = .ok (.getfield 393, 3) := by decide +kernel
theorem dX12_count_50 : decode cX12_count 50 = .ok (.ireturn, 1) := by decide +kernel
theorem dX12_count_51 : decode cX12_count 51 = .ok (.aload_n 0, 1) := by decide +kernel
theorem dX12_count_52 : decode cX12_count 52 = .ok (.getfield 132, 3) := by decide +kernel
theorem dX12_count_55 : decode cX12_count 55 = .ok (.ireturn, 1) := by decide +kernel
theorem dX12_count_56 : decode cX12_count 56 = .ok (.aload_n 0, 1) := by decide +kernel
theorem dX12_count_57 : decode cX12_count 57 = .ok (.getfield 255, 3) := by decide +kernel
theorem dX12_count_60 : decode cX12_count 60 = .ok (.ireturn, 1) := by decide +kernel
theorem dX12_count_61 : decode cX12_count 61 = .ok (.iconst (-1), 1) := by decide +kernel
theorem dX12_count_62 : decode cX12_count 62 = .ok (.ireturn, 1) := by decide +kernel
theorem dJ6_numberOfTrailingZeros_0f7a4_0 : decode cJ6_numberOfTrailingZeros_0f7a4 0 = .ok (.iload_n 0, 1) := by decide +kernel
theorem dJ6_numberOfTrailingZeros_0f7a4_1 : decode cJ6_numberOfTrailingZeros_0f7a4 1 = .ok (.iconst (-1), 1) := by decide +kernel
theorem dJ6_numberOfTrailingZeros_0f7a4_2 : decode cJ6_numberOfTrailingZeros_0f7a4 2 = .ok (.ixor, 1) := by decide +kernel
theorem dJ6_numberOfTrailingZeros_0f7a4_3 : decode cJ6_numberOfTrailingZeros_0f7a4 3 = .ok (.iload_n 0, 1) := by decide +kernel
theorem dJ6_numberOfTrailingZeros_0f7a4_4 : decode cJ6_numberOfTrailingZeros_0f7a4 4 = .ok (.iconst 1, 1) := by decide +kernel
theorem dJ6_numberOfTrailingZeros_0f7a4_5 : decode cJ6_numberOfTrailingZeros_0f7a4 5 = .ok (.isub, 1) := by decide +kernel
theorem dJ6_numberOfTrailingZeros_0f7a4_6 : decode cJ6_numberOfTrailingZeros_0f7a4 6 = .ok (.iand, 1) := by decide +kernel
theorem dJ6_numberOfTrailingZeros_0f7a4_7 : decode cJ6_numberOfTrailingZeros_0f7a4 7 = .ok (.istore_n 0, 1) := by decide +kernel
theorem dJ6_numberOfTrailingZeros_0f7a4_8 : decode cJ6_numberOfTrailingZeros_0f7a4 8 = .ok (.iload_n 0, 1) := by decide +kernel
theorem dJ6_numberOfTrailingZeros_0f7a4_9 : decode cJ6_numberOfTrailingZeros_0f7a4 9 = .ok (.ifCond .gt 8, 3) := by decide +kernel
theorem dJ6_numberOfTrailingZeros_0f7a4_12 : decode cJ6_numberOfTrailingZeros_0f7a4 12 = .ok (.iload_n 0, 1) := by decide +kernel
theorem dJ6_numberOfTrailingZeros_0f7a4_13 : decode cJ6_numberOfTrailingZeros_0f7a4 13 = .ok (.bipush 32, 2) := by decide +kernel
theorem dJ6_numberOfTrailingZeros_0f7a4_15 : decode cJ6_numberOfTrailingZeros_0f7a4 15 = .ok (.iand, 1) := by decide +kernel
theorem dJ6_numberOfTrailingZeros_0f7a4_16 : decode cJ6_numberOfTrailingZeros_0f7a4 16 = .ok (.ireturn, 1) := by decide +kernel
theorem dJ6_numberOfTrailingZeros_0f7a4_17 : decode cJ6_numberOfTrailingZeros_0f7a4 17 = .ok (.iconst 1, 1) := by decide +kernel
theorem dJ6_numberOfTrailingZeros_0f7a4_18 : decode cJ6_numberOfTrailingZeros_0f7a4 18 = .ok (.istore_n 1, 1) := by decide +kernel
theorem dJ6_numberOfTrailingZeros_0f7a4_19 : decode cJ6_numberOfTrailingZeros_0f7a4 19 = .ok (.iload_n 0, 1) := by decide +kernel
theorem dJ6_numberOfTrailingZeros_0f7a4_20 : decode cJ6_numberOfTrailingZeros_0f7a4 20 = .ok (.ldc_w 264, 3) := by decide +kernel
theorem dJ6_numberOfTrailingZeros_0f7a4_23 : decode cJ6_numberOfTrailingZeros_0f7a4 23 = .ok (.if_icmp .le 11, 3) := by decide +kernel
theorem dJ6_numberOfTrailingZeros_0f7a4_26 : decode cJ6_numberOfTrailingZeros_0f7a4 26 = .ok (.iinc 1 16, 3) := by decide +kernel
theorem dJ6_numberOfTrailingZeros_0f7a4_29 : decode cJ6_numberOfTrailingZeros_0f7a4 29 = .ok (.iload_n 0, 1) := by decide +kernel
theorem dJ6_numberOfTrailingZeros_0f7a4_30 : decode cJ6_numberOfTrailingZeros_0f7a4 30 = .ok (.bipush 16, 2) := by decide +kernel
theorem dJ6_numberOfTrailingZeros_0f7a4_32 : decode cJ6_numberOfTrailingZeros_0f7a4 32 = .ok (.iushr, 1) := by decide +kernel
theorem dJ6_numberOfTrailingZeros_0f7a4_33 : decode cJ6_numberOfTrailingZeros_0f7a4 33 = .ok (.istore_n 0, 1) := by decide +kernel
theorem dJ6_numberOfTrailingZeros_0f7a4_34 : decode cJ6_numberOfTrailingZeros_0f7a4 34 = .ok (.iload_n 0, 1) := by decide +kernel
theorem dJ6_numberOfTrailingZeros_0f7a4_35 : decode cJ6_numberOfTrailingZeros_0f7a4 35 = .ok (.sipush 256, 3) := by decide +kernel
theorem dJ6_numberOfTrailingZeros_0f7a4_38 : decode cJ6_numberOfTrailingZeros_0f7a4 38 = .ok (.if_icmp .le 11, 3) := by decide +kernel
theorem dJ6_numberOfTrailingZeros_0f7a4_41 : decode cJ6_numberOfTrailingZeros_0f7a4 41 = .ok (.iinc 1 8, 3) := by decide +kernel
theorem dJ6_numberOfTrailingZeros_0f7a4_44 : decode cJ6_numberOfTrailingZeros_0f7a4 44 = .ok (.iload_n 0, 1) := by decide +kernel
theorem dJ6_numberOfTrailingZeros_0f7a4_45 : decode cJ6_numberOfTrailingZeros_0f7a4 45 = .ok (.bipush 8, 2) := by decide +kernel
theorem dJ6_numberOfTrailingZeros_0f7a4_47 : decode cJ6_numberOfTrailingZeros_0f7a4 47 = .ok (.iushr, 1) := by decide +kernel
theorem dJ6_numberOfTrailingZeros_0f7a4_48 : decode cJ6_numberOfTrailingZeros_0f7a4 48 = .ok (.istore_n 0, 1) := by decide +kernel
theorem dJ6_numberOfTrailingZeros_0f7a4_49 : decode cJ6_numberOfTrailingZeros_0f7a4 49 = .ok (.iload_n 0, 1) := by decide +kernel
theorem dJ6_numberOfTrailingZeros_0f7a4_50 : decode cJ6_numberOfTrailingZeros_0f7a4 50 = .ok (.bipush 16, 2) := by decide +kernel
theorem dJ6_numberOfTrailingZeros_0f7a4_52 : decode cJ6_numberOfTrailingZeros_0f7a4 52 = .ok (.if_icmp .le 10, 3) := by decide +kernel
theorem dJ6_numberOfTrailingZeros_0f7a4_55 : decode cJ6_numberOfTrailingZeros_0f7a4 55 = .ok (.iinc 1 4, 3) := by decide +kernel
theorem dJ6_numberOfTrailingZeros_0f7a4_58 : decode cJ6_numberOfTrailingZeros_0f7a4 58 = .ok (.iload_n 0, 1) := by decide +kernel
theorem dJ6_numberOfTrailingZeros_0f7a4_59 : decode cJ6_numberOfTrailingZeros_0f7a4 59 = .ok (.iconst 4, 1) := by decide +kernel
theorem dJ6_numberOfTrailingZeros_0f7a4_60 : decode cJ6_numberOfTrailingZeros_0f7a4 60 = .ok (.iushr, 1) := by decide +kernel
theorem dJ6_numberOfTrailingZeros_0f7a4_61 : decode cJ6_numberOfTrailingZeros_0f7a4 61 = .ok (.istore_n 0, 1) := by decide +kernel
theorem dJ6_numberOfTrailingZeros_0f7a4_62 : decode cJ6_numberOfTrailingZeros_0f7a4 62 = .ok (.iload_n 0, 1) := by decide +kernel
theorem dJ6_numberOfTrailingZeros_0f7a4_63 : decode cJ6_numberOfTrailingZeros_0f7a4 63 = .ok (.iconst 4, 1) := by decide +kernel
theorem dJ6_numberOfTrailingZeros_0f7a4_64 : decode cJ6_numberOfTrailingZeros_0f7a4 64 = .ok (.if_icmp .le 10, 3) := by decide +kernel
theorem dJ6_numberOfTrailingZeros_0f7a4_67 : decode cJ6_numberOfTrailingZeros_0f7a4 67 = .ok (.iinc 1 2, 3) := by decide +kernel
theorem dJ6_numberOfTrailingZeros_0f7a4_70 : decode cJ6_numberOfTrailingZeros_0f7a4 70 = .ok (.iload_n 0, 1) := by decide +kernel
theorem dJ6_numberOfTrailingZeros_0f7a4_71 : decode cJ6_numberOfTrailingZeros_0f7a4 71 = .ok (.iconst 2, 1) := by decide +kernel
theorem dJ6_numberOfTrailingZeros_0f7a4_72 : decode cJ6_numberOfTrailingZeros_0f7a4 72 = .ok (.iushr, 1) := by decide +kernel
theorem dJ6_numberOfTrailingZeros_0f7a4_73 : decode cJ6_numberOfTrailingZeros_0f7a4 73 = .ok (.istore_n 0, 1) := by decide +kernel
theorem dJ6_numberOfTrailingZeros_0f7a4_74 : decode cJ6_numberOfTrailingZeros_0f7a4 74 = .ok (.iload_n 1, 1) := by decide +kernel
theorem dJ6_numberOfTrailingZeros_0f7a4_75 : decode cJ6_numberOfTrailingZeros_0f7a4 75 = .ok (.iload_n 0, 1) := by decide +kernel
theorem dJ6_numberOfTrailingZeros_0f7a4_76 : decode cJ6_numberOfTrailingZeros_0f7a4 76 = .ok (.iconst 1, 1) := by decide +kernel
theorem dJ6_numberOfTrailingZeros_0f7a4_77 : decode cJ6_numberOfTrailingZeros_0f7a4 77 = .ok (.iushr, 1) := by decide +kernel
theorem dJ6_numberOfTrailingZeros_0f7a4_78 : decode cJ6_numberOfTrailingZeros_0f7a4 78 = .ok (.iadd, 1) := by decide +kernel
theorem dJ6_numberOfTrailingZeros_0f7a4_79 : decode cJ6_numberOfTrailingZeros_0f7a4 79 = .ok (.ireturn, 1) := by decide +kernel
theorem dJ6_bitCount_0f7a4_0 : decode cJ6_bitCount_0f7a4 0 = .ok (.iload_n 0, 1) := by decide +kernel
theorem dJ6_bitCount_0f7a4_1 : decode cJ6_bitCount_0f7a4 1 = .ok (.iload_n 0, 1) := by decide +kernel
theorem dJ6_bitCount_0f7a4_2 : decode cJ6_bitCount_0f7a4 2 = .ok (.iconst 1, 1) := by decide +kernel
theorem dJ6_bitCount_0f7a4_3 : decode cJ6_bitCount_0f7a4 3 = .ok (.iushr, 1) := by decide +kernel
theorem dJ6_bitCount_0f7a4_4 : decode cJ6_bitCount_0f7a4 4 = .ok (.ldc_w 265, 3) := by decide +kernel
theorem dJ6_bitCount_0f7a4_7 : decode cJ6_bitCount_0f7a4 7 = .ok (.iand, 1) := by decide +kernel
theorem dJ6_bitCount_0f7a4_8 : decode cJ6_bitCount_0f7a4 8 = .ok (.isub, 1) := by decide +kernel
theorem dJ6_bitCount_0f7a4_9 : decode cJ6_bitCount_0f7a4 9 = .ok (.istore_n 0, 1) := by decide +kernel
theorem dJ6_bitCount_0f7a4_10 : decode cJ6_bitCount_0f7a4 10 = .ok (.iload_n 0, 1) := by decide +kernel
theorem dJ6_bitCount_0f7a4_11 : decode cJ6_bitCount_0f7a4 11 = .ok (.ldc_w 266, 3) := by decide +kernel
theorem dJ6_bitCount_0f7a4_14 : decode cJ6_bitCount_0f7a4 14 = .ok (.iand, 1) := by decide +kernel
theorem dJ6_bitCount_0f7a4_15 : decode cJ6_bitCount_0f7a4 15 = .ok (.iload_n 0, 1) := by decide +kernel
theorem dJ6_bitCount_0f7a4_16 : decode cJ6_bitCount_0f7a4 16 = .ok (.iconst 2, 1) := by decide +kernel
theorem dJ6_bitCount_0f7a4_17 : decode cJ6_bitCount_0f7a4 17 = .ok (.iushr, 1) := by decide +kernel
theorem dJ6_bitCount_0f7a4_18 : decode cJ6_bitCount_0f7a4 18 = .ok (.ldc_w 266, 3) := by decide +kernel
theorem dJ6_bitCount_0f7a4_21 : decode cJ6_bitCount_0f7a4 21 = .ok (.iand, 1) := by decide +kernel
theorem dJ6_bitCount_0f7a4_22 : decode cJ6_bitCount_0f7a4 22 = .ok (.iadd, 1) := by decide +kernel
theorem dJ6_bitCount_0f7a4_23 : decode cJ6_bitCount_0f7a4 23 = .ok (.istore_n 0, 1) := by decide +kernel
theorem dJ6_bitCount_0f7a4_24 : decode cJ6_bitCount_0f7a4 24 = .ok (.iload_n 0, 1) := by decide +kernel
theorem dJ6_bitCount_0f7a4_25 : decode cJ6_bitCount_0f7a4 25 = .ok (.iload_n 0, 1) := by decide +kernel
theorem dJ6_bitCount_0f7a4_26 : decode cJ6_bitCount_0f7a4 26 = .ok (.iconst 4, 1) := by decide +kernel
theorem dJ6_bitCount_0f7a4_27 : decode cJ6_bitCount_0f7a4 27 = .ok (.iushr, 1) := by decide +kernel
theorem dJ6_bitCount_0f7a4_28 : decode cJ6_bitCount_0f7a4 28 = .ok (.iadd, 1) := by decide +kernel
theorem dJ6_bitCount_0f7a4_29 : decode cJ6_bitCount_0f7a4 29 = .ok (.ldc_w 267, 3) := by decide +kernel
theorem dJ6_bitCount_0f7a4_32 : decode cJ6_bitCount_0f7a4 32 = .ok (.iand, 1) := by decide +kernel
theorem dJ6_bitCount_0f7a4_33 : decode cJ6_bitCount_0f7a4 33 = .ok (.istore_n 0, 1) := by decide +kernel
theorem dJ6_bitCount_0f7a4_34 : decode cJ6_bitCount_0f7a4 34 = .ok (.iload_n 0, 1) := by decide +kernel
theorem dJ6_bitCount_0f7a4_35 : decode cJ6_bitCount_0f7a4 35 = .ok (.iload_n 0, 1) := by decide +kernel
theorem dJ6_bitCount_0f7a4_36 : decode cJ6_bitCount_0f7a4 36 = .ok (.bipush 8, 2) := by decide +kernel
theorem dJ6_bitCount_0f7a4_38 : decode cJ6_bitCount_0f7a4 38 = .ok (.iushr, 1) := by decide +kernel
theorem dJ6_bitCount_0f7a4_39 : decode cJ6_bitCount_0f7a4 39 = .ok (.iadd, 1) := by decide +kernel
theorem dJ6_bitCount_0f7a4_40 : decode cJ6_bitCount_0f7a4 40 = .ok (.istore_n 0, 1) := by decide +kernel
theorem dJ6_bitCount_0f7a4_41 : decode cJ6_bitCount_0f7a4 41 = .ok (.iload_n 0, 1) := by decide +kernel
theorem dJ6_bitCount_0f7a4_42 : decode cJ6_bitCount_0f7a4 42 = .ok (.iload_n 0, 1) := by decide +kernel
theorem dJ6_bitCount_0f7a4_43 : decode cJ6_bitCount_0f7a4 43 = .ok (.bipush 16, 2) := by decide +kernel
theorem dJ6_bitCount_0f7a4_45 : decode cJ6_bitCount_0f7a4 45 = .ok (.iushr, 1) := by decide +kernel
theorem dJ6_bitCount_0f7a4_46 : decode cJ6_bitCount_0f7a4 46 = .ok (.iadd, 1) := by decide +kernel
theorem dJ6_bitCount_0f7a4_47 : decode cJ6_bitCount_0f7a4 47 = .ok (.istore_n 0, 1) := by decide +kernel
theorem dJ6_bitCount_0f7a4_48 : decode cJ6_bitCount_0f7a4 48 = .ok (.iload_n 0, 1) := by decide +kernel
theorem dJ6_bitCount_0f7a4_49 : decode cJ6_bitCount_0f7a4 49 = .ok (.bipush 63, 2) := by decide +kernel
theorem dJ6_bitCount_0f7a4_51 : decode cJ6_bitCount_0f7a4 51 = .ok (.iand, 1) := by decide +kernel
theorem dJ6_bitCount_0f7a4_52 : decode cJ6_bitCount_0f7a4 52 = .ok (.ireturn, 1) := by decide +kernel
theorem dJ9_max_7cf53_0 : decode cJ9_max_7cf53 0 = .ok (.iload_n 0, 1) := by decide +kernel
theorem dJ9_max_7cf53_1 : decode cJ9_max_7cf53 1 = .ok (.iload_n 1, 1) := by decide +kernel
theorem dJ9_max_7cf53_2 : decode cJ9_max_7cf53 2 = .ok (.if_icmp .lt 7, 3) := by decide +kernel
theorem dJ9_max_7cf53_5 : decode cJ9_max_7cf53 5 = .ok (.iload_n 0, 1) := by decide +kernel
theorem dJ9_max_7cf53_6 : decode cJ9_max_7cf53 6 = .ok (.goto 4, 3) := by decide +kernel
theorem dJ9_max_7cf53_9 : decode cJ9_max_7cf53 9 = .ok (.iload_n 1, 1) := by decide +kernel
theorem dJ9_max_7cf53_10 : decode cJ9_max_7cf53 10 = .ok (.ireturn, 1) := by decide +kernel
theorem dJ9_max_f86c9_0 : decode cJ9_max_f86c9 0 = .ok (.lload_n 0, 1) := by decide +kernel
theorem dJ9_max_f86c9_1 : decode cJ9_max_f86c9 1 = .ok (.lload_n 2, 1) := by decide +kernel
theorem dJ9_max_f86c9_2 : decode cJ9_max_f86c9 2 = .ok (.lcmp, 1) := by decide +kernel
theorem dJ9_max_f86c9_3 : decode cJ9_max_f86c9 3 = .ok (.ifCond .lt 7, 3) := by decide +kernel
theorem dJ9_max_f86c9_6 : decode cJ9_max_f86c9 6 = .ok (.lload_n 0, 1) := by decide +kernel
theorem dJ9_max_f86c9_7 : decode cJ9_max_f86c9 7 = .ok (.goto 4, 3) := by decide +kernel
theorem dJ9_max_f86c9_10 : decode cJ9_max_f86c9 10 = .ok (.lload_n 2, 1) := by decide +kernel
theorem dJ9_max_f86c9_11 : decode cJ9_max_f86c9 11 = .ok (.lreturn, 1) := by decide +kernel
theorem dJ9_min_7cf53_0 : decode cJ9_min_7cf53 0 = .ok (.iload_n 0, 1) := by decide +kernel
theorem dJ9_min_7cf53_1 : decode cJ9_min_7cf53 1 = .ok (.iload_n 1, 1) := by decide +kernel
theorem dJ9_min_7cf53_2 : decode cJ9_min_7cf53 2 = .ok (.if_icmp .gt 7, 3) := by decide +kernel
theorem dJ9_min_7cf53_5 : decode cJ9_min_7cf53 5 = .ok (.iload_n 0, 1) := by decide +kernel
theorem dJ9_min_7cf53_6 : decode cJ9_min_7cf53 6 = .ok (.goto 4, 3) := by decide +kernel
theorem dJ9_min_7cf53_9 : decode cJ9_min_7cf53 9 = .ok (.iload_n 1, 1) := by decide +kernel
theorem dJ9_min_7cf53_10 : decode cJ9_min_7cf53 10 = .ok (.ireturn, 1) := by decide +kernel
theorem dJ9_min_f86c9_0 : decode cJ9_min_f86c9 0 = .ok (.lload_n 0, 1) := by decide +kernel
theorem dJ9_min_f86c9_1 : decode cJ9_min_f86c9 1 = .ok (.lload_n 2, 1) := by decide +kernel
theorem dJ9_min_f86c9_2 : decode cJ9_min_f86c9 2 = .ok (.lcmp, 1) := by decide +kernel
theorem dJ9_min_f86c9_3 : decode cJ9_min_f86c9 3 = .ok (.ifCond .gt 7, 3) := by decide +kernel
theorem dJ9_min_f86c9_6 : decode cJ9_min_f86c9 6 = .ok (.lload_n 0, 1) := by decide +kernel
theorem dJ9_min_f86c9_7 : decode cJ9_min_f86c9 7 = .ok (.goto 4, 3) := by decide +kernel
theorem dJ9_min_f86c9_10 : decode cJ9_min_f86c9 10 = .ok (.lload_n 2, 1) := by decide +kernel
theorem dJ9_min_f86c9_11 : decode cJ9_min_f86c9 11 = .ok (.lreturn, 1) := by decide +kernel
theorem dJ7_fill_53178_0 : decode cJ7_fill_53178 0 = .ok (.iconst 0, 1) := by decide +kernel
theorem dJ7_fill_53178_1 : decode cJ7_fill_53178 1 = .ok (.istore_n 2, 1) := by decide +kernel
theorem dJ7_fill_53178_2 : decode cJ7_fill_53178 2 = .ok (.aload_n 0, 1) := by decide +kernel
theorem dJ7_fill_53178_3 : decode cJ7_fill_53178 3 = .ok (.arraylength, 1) := by decide +kernel
theorem dJ7_fill_53178_4 : decode cJ7_fill_53178 4 = .ok (.istore_n 3, 1) := by decide +kernel
theorem dJ7_fill_53178_5 : decode cJ7_fill_53178 5 = .ok (.iload_n 2, 1) := by decide +kernel
theorem dJ7_fill_53178_6 : decode cJ7_fill_53178 6 = .ok (.iload_n 3, 1) := by decide +kernel
theorem dJ7_fill_53178_7 : decode cJ7_fill_53178 7 = .ok (.if_icmp .ge 13, 3) := by decide +kernel
theorem dJ7_fill_53178_10 : decode cJ7_fill_53178 10 = .ok (.aload_n 0, 1) := by decide +kernel
theorem dJ7_fill_53178_11 : decode cJ7_fill_53178 11 = .ok (.iload_n 2, 1) := by decide +kernel
theorem dJ7_fill_53178_12 : decode cJ7_fill_53178 12 = .ok (.iload_n 1, 1) := by decide +kernel
theorem dJ7_fill_53178_13 : decode cJ7_fill_53178 13 = .ok (.iastore, 1) := by decide +kernel
theorem dJ7_fill_53178_14 : decode cJ7_fill_53178 14 = .ok (.iinc 2 1, 3) := by decide +kernel
theorem dJ7_fill_53178_17 : decode cJ7_fill_53178 17 = .ok (.goto (-12), 3) := by decide +kernel
theorem dJ7_fill_53178_20 : decode cJ7_fill_53178 20 = .ok (.return_, 1) := by decide +kernel
theorem dL_bubble_0 : decode cL_bubble 0 = .ok (.aload 4, 2) := by decide +kernel
theorem dL_bubble_2 : decode cL_bubble 2 = .ok (.iconst 0, 1) := by decide +kernel
theorem dL_bubble_3 : decode cL_bubble 3 = .ok (.aload_n 0, 1) := by decide +kernel
theorem dL_bubble_4 : decode cL_bubble 4 = .ok (.iload_n 1, 1) := by decide +kernel
theorem dL_bubble_5 : decode cL_bubble 5 = .ok (.iload_n 2, 1) := by decide +kernel
theorem dL_bubble_6 : decode cL_bubble 6 = .ok (.iload_n 3, 1) := by decide +kernel
theorem dL_bubble_7 : decode cL_bubble 7 = .ok (.invokevirtual 7, 3) := by decide +kernel
theorem dL_bubble_10 : decode cL_bubble 10 = .ok (.i2l, 1) := by decide +kernel
theorem dL_bubble_11 : decode cL_bubble 11 = .ok (.lastore, 1) := by decide +kernel
theorem dL_bubble_12 : decode cL_bubble 12 = .ok (.goto 7, 3) := by decide +kernel
theorem dL_bubble_15 : decode cL_bubble 15 = .ok (.astore 5, 2) := by decide +kernel
theorem dL_bubble_17 : decode cL_bubble 17 = .ok (.iconst 1, 1) := by decide +kernel
theorem dL_bubble_18 : decode cL_bubble 18 = .ok (.ireturn, 1) := by decide +kernel
theorem dL_bubble_19 : decode cL_bubble 19 = .ok (.iconst 0, 1) := by decide +kernel
theorem dL_bubble_20 : decode cL_bubble 20 = .ok (.ireturn, 1) := by decide +kernel
theorem dL_guest_0 : decode cL_guest 0 = .ok (.aload_n 3, 1) := by decide +kernel
theorem dL_guest_1 : decode cL_guest 1 = .ok (.iconst 0, 1) := by decide +kernel
theorem dL_guest_2 : decode cL_guest 2 = .ok (.aload_n 0, 1) := by decide +kernel
theorem dL_guest_3 : decode cL_guest 3 = .ok (.iload_n 1, 1) := by decide +kernel
theorem dL_guest_4 : decode cL_guest 4 = .ok (.iload_n 2, 1) := by decide +kernel
theorem dL_guest_5 : decode cL_guest 5 = .ok (.invokevirtual 15, 3) := by decide +kernel
theorem dL_guest_8 : decode cL_guest 8 = .ok (.i2l, 1) := by decide +kernel
theorem dL_guest_9 : decode cL_guest 9 = .ok (.lastore, 1) := by decide +kernel
theorem dL_guest_10 : decode cL_guest 10 = .ok (.goto 7, 3) := by decide +kernel
theorem dL_guest_13 : decode cL_guest 13 = .ok (.astore 4, 2) := by decide +kernel
theorem dL_guest_15 : decode cL_guest 15 = .ok (.iconst 1, 1) := by decide +kernel
theorem dL_guest_16 : decode cL_guest 16 = .ok (.ireturn, 1) := by decide +kernel
theorem dL_guest_17 : decode cL_guest 17 = .ok (.iconst 0, 1) := by decide +kernel
theorem dL_guest_18 : decode cL_guest 18 = .ok (.ireturn, 1) := by decide +kernel
theorem dL_worth_0 : decode cL_worth 0 = .ok (.aload 7, 2) := by decide +kernel
theorem dL_worth_2 : decode cL_worth 2 = .ok (.iconst 0, 1) := by decide +kernel
theorem dL_worth_3 : decode cL_worth 3 = .ok (.aload_n 0, 1) := by decide +kernel
theorem dL_worth_4 : decode cL_worth 4 = .ok (.iload_n 1, 1) := by decide +kernel
theorem dL_worth_5 : decode cL_worth 5 = .ok (.iload_n 2, 1) := by decide +kernel
theorem dL_worth_6 : decode cL_worth 6 = .ok (.iload_n 3, 1) := by decide +kernel
theorem dL_worth_7 : decode cL_worth 7 = .ok (.iload 4, 2) := by decide +kernel
theorem dL_worth_9 : decode cL_worth 9 = .ok (.iload 5, 2) := by decide +kernel
theorem dL_worth_11 : decode cL_worth 11 = .ok (.iload 6, 2) := by decide +kernel
theorem dL_worth_13 : decode cL_worth 13 = .ok (.invokevirtual 19, 3) := by decide +kernel
theorem dL_worth_16 : decode cL_worth 16 = .ok (.i2l, 1) := by decide +kernel
theorem dL_worth_17 : decode cL_worth 17 = .ok (.lastore, 1) := by decide +kernel
theorem dL_worth_18 : decode cL_worth 18 = .ok (.goto 7, 3) := by decide +kernel
theorem dL_worth_21 : decode cL_worth 21 = .ok (.astore 8, 2) := by decide +kernel
theorem dL_worth_23 : decode cL_worth 23 = .ok (.iconst 1, 1) := by decide +kernel
theorem dL_worth_24 : decode cL_worth 24 = .ok (.ireturn, 1) := by decide +kernel
theorem dL_worth_25 : decode cL_worth 25 = .ok (.iconst 0, 1) := by decide +kernel
theorem dL_worth_26 : decode cL_worth 26 = .ok (.ireturn, 1) := by decide +kernel
theorem dL_law_0 : decode cL_law 0 = .ok (.new 8, 3) := by decide +kernel
theorem dL_law_3 : decode cL_law 3 = .ok (.dup, 1) := by decide +kernel
theorem dL_law_4 : decode cL_law 4 = .ok (.invokespecial 23, 3) := by decide +kernel
theorem dL_law_7 : decode cL_law 7 = .ok (.astore_n 1, 1) := by decide +kernel
theorem dL_law_8 : decode cL_law 8 = .ok (.new 24, 3) := by decide +kernel
theorem dL_law_11 : decode cL_law 11 = .ok (.dup, 1) := by decide +kernel
theorem dL_law_12 : decode cL_law 12 = .ok (.invokespecial 26, 3) := by decide +kernel
theorem dL_law_15 : decode cL_law 15 = .ok (.astore_n 2, 1) := by decide +kernel
theorem dL_law_16 : decode cL_law 16 = .ok (.iconst 1, 1) := by decide +kernel
theorem dL_law_17 : decode cL_law 17 = .ok (.newarray .long, 2) := by decide +kernel
theorem dL_law_19 : decode cL_law 19 = .ok (.astore_n 3, 1) := by decide +kernel
theorem dL_law_20 : decode cL_law 20 = .ok (.iconst 0, 1) := by decide +kernel
theorem dL_law_21 : decode cL_law 21 = .ok (.istore 4, 2) := by decide +kernel
theorem dL_law_23 : decode cL_law 23 = .ok (.iload 4, 2) := by decide +kernel
theorem dL_law_25 : decode cL_law 25 = .ok (.aload_n 0, 1) := by decide +kernel
theorem dL_law_26 : decode cL_law 26 = .ok (.arraylength, 1) := by decide +kernel
theorem dL_law_27 : decode cL_law 27 = .ok (.bipush 7, 2) := by decide +kernel
theorem dL_law_29 : decode cL_law 29 = .ok (.isub, 1) := by decide +kernel
theorem dL_law_30 : decode cL_law 30 = .ok (.if_icmp .gt 1630, 3) := by decide +kernel
theorem dL_law_33 : decode cL_law 33 = .ok (.aload_n 0, 1) := by decide +kernel
theorem dL_law_34 : decode cL_law 34 = .ok (.iload 4, 2) := by decide +kernel
theorem dL_law_36 : decode cL_law 36 = .ok (.iaload, 1) := by decide +kernel
theorem dL_law_37 : decode cL_law 37 = .ok (.bipush 63, 2) := by decide +kernel
theorem dL_law_39 : decode cL_law 39 = .ok (.iand, 1) := by decide +kernel
theorem dL_law_40 : decode cL_law 40 = .ok (.tableswitch 1614 0 34 #[156, 205, 278, 303, 328, 341, 354, 391, 471, 508, 545, 582, 607, 644, 669, 718, 743, 804, 841, 890, 939, 964, 989, 1026, 1075, 1100, 1137, 1174, 1223, 1236, 1293, 1361, 1479, 1540, 1589], 156) := by decide +kernel
theorem dL_law_196 : decode cL_law 196 = .ok (.aload_n 1, 1) := by decide +kernel
theorem dL_law_197 : decode cL_law 197 = .ok (.aload_n 0, 1) := by decide +kernel
theorem dL_law_198 : decode cL_law 198 = .ok (.iload 4, 2) := by decide +kernel
theorem dL_law_200 : decode cL_law 200 = .ok (.iconst 1, 1) := by decide +kernel
theorem dL_law_201 : decode cL_law 201 = .ok (.iadd, 1) := by decide +kernel
theorem dL_law_202 : decode cL_law 202 = .ok (.iaload, 1) := by decide +kernel
theorem dL_law_203 : decode cL_law 203 = .ok (.aload_n 0, 1) := by decide +kernel
theorem dL_law_204 : decode cL_law 204 = .ok (.iload 4, 2) := by decide +kernel
theorem dL_law_206 : decode cL_law 206 = .ok (.iconst 2, 1) := by decide +kernel
theorem dL_law_207 : decode cL_law 207 = .ok (.iadd, 1) := by decide +kernel
theorem dL_law_208 : decode cL_law 208 = .ok (.iaload, 1) := by decide +kernel
theorem dL_law_209 : decode cL_law 209 = .ok (.aload_n 0, 1) := by decide +kernel
theorem dL_law_210 : decode cL_law 210 = .ok (.iload 4, 2) := by decide +kernel
theorem dL_law_212 : decode cL_law 212 = .ok (.iconst 3, 1) := by decide +kernel
theorem dL_law_213 : decode cL_law 213 = .ok (.iadd, 1) := by decide +kernel
theorem dL_law_214 : decode cL_law 214 = .ok (.iaload, 1) := by decide +kernel
theorem dL_law_215 : decode cL_law 215 = .ok (.invokevirtual 27, 3) := by decide +kernel
theorem dL_law_218 : decode cL_law 218 = .ok (.aload_n 2, 1) := by decide +kernel
theorem dL_law_219 : decode cL_law 219 = .ok (.aload_n 0, 1) := by decide +kernel
theorem dL_law_220 : decode cL_law 220 = .ok (.iload 4, 2) := by decide +kernel
theorem dL_law_222 : decode cL_law 222 = .ok (.iconst 1, 1) := by decide +kernel
theorem dL_law_223 : decode cL_law 223 = .ok (.iadd, 1) := by decide +kernel
theorem dL_law_224 : decode cL_law 224 = .ok (.iaload, 1) := by decide +kernel
theorem dL_law_225 : decode cL_law 225 = .ok (.aload_n 0, 1) := by decide +kernel
theorem dL_law_226 : decode cL_law 226 = .ok (.iload 4, 2) := by decide +kernel
theorem dL_law_228 : decode cL_law 228 = .ok (.iconst 2, 1) := by decide +kernel
theorem dL_law_229 : decode cL_law 229 = .ok (.iadd, 1) := by decide +kernel
theorem dL_law_230 : decode cL_law 230 = .ok (.iaload, 1) := by decide +kernel
theorem dL_law_231 : decode cL_law 231 = .ok (.aload_n 0, 1) := by decide +kernel
theorem dL_law_232 : decode cL_law 232 = .ok (.iload 4, 2) := by decide +kernel
theorem dL_law_234 : decode cL_law 234 = .ok (.iconst 3, 1) := by decide +kernel
theorem dL_law_235 : decode cL_law 235 = .ok (.iadd, 1) := by decide +kernel
theorem dL_law_236 : decode cL_law 236 = .ok (.iaload, 1) := by decide +kernel
theorem dL_law_237 : decode cL_law 237 = .ok (.invokevirtual 30, 3) := by decide +kernel
theorem dL_law_240 : decode cL_law 240 = .ok (.if_icmp .eq 1414, 3) := by decide +kernel
theorem dL_law_243 : decode cL_law 243 = .ok (.iconst 0, 1) := by decide +kernel
theorem dL_law_244 : decode cL_law 244 = .ok (.ireturn, 1) := by decide +kernel
theorem dL_law_245 : decode cL_law 245 = .ok (.aload_n 1, 1) := by decide +kernel
theorem dL_law_246 : decode cL_law 246 = .ok (.aload_n 0, 1) := by decide +kernel
theorem dL_law_247 : decode cL_law 247 = .ok (.iload 4, 2) := by decide +kernel
theorem dL_law_249 : decode cL_law 249 = .ok (.iconst 1, 1) := by decide +kernel
theorem dL_law_250 : decode cL_law 250 = .ok (.iadd, 1) := by decide +kernel
theorem dL_law_251 : decode cL_law 251 = .ok (.iaload, 1) := by decide +kernel
theorem dL_law_252 : decode cL_law 252 = .ok (.aload_n 0, 1) := by decide +kernel
theorem dL_law_253 : decode cL_law 253 = .ok (.iload 4, 2) := by decide +kernel
theorem dL_law_255 : decode cL_law 255 = .ok (.iconst 2, 1) := by decide +kernel
theorem dL_law_256 : decode cL_law 256 = .ok (.iadd, 1) := by decide +kernel
theorem dL_law_257 : decode cL_law 257 = .ok (.iaload, 1) := by decide +kernel
theorem dL_law_258 : decode cL_law 258 = .ok (.aload_n 0, 1) := by decide +kernel
theorem dL_law_259 : decode cL_law 259 = .ok (.iload 4, 2) := by decide +kernel
theorem dL_law_261 : decode cL_law 261 = .ok (.iconst 3, 1) := by decide +kernel
theorem dL_law_262 : decode cL_law 262 = .ok (.iadd, 1) := by decide +kernel
theorem dL_law_263 : decode cL_law 263 = .ok (.iaload, 1) := by decide +kernel
theorem dL_law_264 : decode cL_law 264 = .ok (.aload_n 0, 1) := by decide +kernel
theorem dL_law_265 : decode cL_law 265 = .ok (.iload 4, 2) := by decide +kernel
theorem dL_law_267 : decode cL_law 267 = .ok (.iconst 4, 1) := by decide +kernel
theorem dL_law_268 : decode cL_law 268 = .ok (.iadd, 1) := by decide +kernel
theorem dL_law_269 : decode cL_law 269 = .ok (.iaload, 1) := by decide +kernel
theorem dL_law_270 : decode cL_law 270 = .ok (.aload_n 0, 1) := by decide +kernel
theorem dL_law_271 : decode cL_law 271 = .ok (.iload 4, 2) := by decide +kernel
theorem dL_law_273 : decode cL_law 273 = .ok (.iconst 5, 1) := by decide +kernel
theorem dL_law_274 : decode cL_law 274 = .ok (.iadd, 1) := by decide +kernel
theorem dL_law_275 : decode cL_law 275 = .ok (.iaload, 1) := by decide +kernel
theorem dL_law_276 : decode cL_law 276 = .ok (.invokevirtual 31, 3) := by decide +kernel
theorem dL_law_279 : decode cL_law 279 = .ok (.aload_n 2, 1) := by decide +kernel
theorem dL_law_280 : decode cL_law 280 = .ok (.aload_n 0, 1) := by decide +kernel
theorem dL_law_281 : decode cL_law 281 = .ok (.iload 4, 2) := by decide +kernel
theorem dL_law_283 : decode cL_law 283 = .ok (.iconst 1, 1) := by decide +kernel
theorem dL_law_284 : decode cL_law 284 = .ok (.iadd, 1) := by decide +kernel
theorem dL_law_285 : decode cL_law 285 = .ok (.iaload, 1) := by decide +kernel
theorem dL_law_286 : decode cL_law 286 = .ok (.aload_n 0, 1) := by decide +kernel
theorem dL_law_287 : decode cL_law 287 = .ok (.iload 4, 2) := by decide +kernel
theorem dL_law_289 : decode cL_law 289 = .ok (.iconst 2, 1) := by decide +kernel
theorem dL_law_290 : decode cL_law 290 = .ok (.iadd, 1) := by decide +kernel
theorem dL_law_291 : decode cL_law 291 = .ok (.iaload, 1) := by decide +kernel
theorem dL_law_292 : decode cL_law 292 = .ok (.aload_n 0, 1) := by decide +kernel
theorem dL_law_293 : decode cL_law 293 = .ok (.iload 4, 2) := by decide +kernel
theorem dL_law_295 : decode cL_law 295 = .ok (.iconst 3, 1) := by decide +kernel
theorem dL_law_296 : decode cL_law 296 = .ok (.iadd, 1) := by decide +kernel
theorem dL_law_297 : decode cL_law 297 = .ok (.iaload, 1) := by decide +kernel
theorem dL_law_298 : decode cL_law 298 = .ok (.aload_n 0, 1) := by decide +kernel
theorem dL_law_299 : decode cL_law 299 = .ok (.iload 4, 2) := by decide +kernel
theorem dL_law_301 : decode cL_law 301 = .ok (.iconst 4, 1) := by decide +kernel
theorem dL_law_302 : decode cL_law 302 = .ok (.iadd, 1) := by decide +kernel
theorem dL_law_303 : decode cL_law 303 = .ok (.iaload, 1) := by decide +kernel
theorem dL_law_304 : decode cL_law 304 = .ok (.aload_n 0, 1) := by decide +kernel
theorem dL_law_305 : decode cL_law 305 = .ok (.iload 4, 2) := by decide +kernel
theorem dL_law_307 : decode cL_law 307 = .ok (.iconst 5, 1) := by decide +kernel
theorem dL_law_308 : decode cL_law 308 = .ok (.iadd, 1) := by decide +kernel
theorem dL_law_309 : decode cL_law 309 = .ok (.iaload, 1) := by decide +kernel
theorem dL_law_310 : decode cL_law 310 = .ok (.invokevirtual 35, 3) := by decide +kernel
theorem dL_law_313 : decode cL_law 313 = .ok (.if_icmp .eq 1341, 3) := by decide +kernel
theorem dL_law_316 : decode cL_law 316 = .ok (.iconst 0, 1) := by decide +kernel
theorem dL_law_317 : decode cL_law 317 = .ok (.ireturn, 1) := by decide +kernel
theorem dL_law_318 : decode cL_law 318 = .ok (.aload_n 1, 1) := by decide +kernel
theorem dL_law_319 : decode cL_law 319 = .ok (.aload_n 0, 1) := by decide +kernel
theorem dL_law_320 : decode cL_law 320 = .ok (.iload 4, 2) := by decide +kernel
theorem dL_law_322 : decode cL_law 322 = .ok (.iconst 1, 1) := by decide +kernel
theorem dL_law_323 : decode cL_law 323 = .ok (.iadd, 1) := by decide +kernel
theorem dL_law_324 : decode cL_law 324 = .ok (.iaload, 1) := by decide +kernel
theorem dL_law_325 : decode cL_law 325 = .ok (.invokevirtual 36, 3) := by decide +kernel
theorem dL_law_328 : decode cL_law 328 = .ok (.aload_n 2, 1) := by decide +kernel
theorem dL_law_329 : decode cL_law 329 = .ok (.aload_n 0, 1) := by decide +kernel
theorem dL_law_330 : decode cL_law 330 = .ok (.iload 4, 2) := by decide +kernel
theorem dL_law_332 : decode cL_law 332 = .ok (.iconst 1, 1) := by decide +kernel
theorem dL_law_333 : decode cL_law 333 = .ok (.iadd, 1) := by decide +kernel
theorem dL_law_334 : decode cL_law 334 = .ok (.iaload, 1) := by decide +kernel
theorem dL_law_335 : decode cL_law 335 = .ok (.invokevirtual 40, 3) := by decide +kernel
theorem dL_law_338 : decode cL_law 338 = .ok (.if_icmp .eq 1316, 3) := by decide +kernel
theorem dL_law_341 : decode cL_law 341 = .ok (.iconst 0, 1) := by decide +kernel
theorem dL_law_342 : decode cL_law 342 = .ok (.ireturn, 1) := by decide +kernel
theorem dL_law_343 : decode cL_law 343 = .ok (.aload_n 1, 1) := by decide +kernel
theorem dL_law_344 : decode cL_law 344 = .ok (.aload_n 0, 1) := by decide +kernel
theorem dL_law_345 : decode cL_law 345 = .ok (.iload 4, 2) := by decide +kernel
theorem dL_law_347 : decode cL_law 347 = .ok (.iconst 1, 1) := by decide +kernel
theorem dL_law_348 : decode cL_law 348 = .ok (.iadd, 1) := by decide +kernel
theorem dL_law_349 : decode cL_law 349 = .ok (.iaload, 1) := by decide +kernel
theorem dL_law_350 : decode cL_law 350 = .ok (.invokevirtual 41, 3) := by decide +kernel
theorem dL_law_353 : decode cL_law 353 = .ok (.aload_n 2, 1) := by decide +kernel
theorem dL_law_354 : decode cL_law 354 = .ok (.aload_n 0, 1) := by decide +kernel
theorem dL_law_355 : decode cL_law 355 = .ok (.iload 4, 2) := by decide +kernel
theorem dL_law_357 : decode cL_law 357 = .ok (.iconst 1, 1) := by decide +kernel
theorem dL_law_358 : decode cL_law 358 = .ok (.iadd, 1) := by decide +kernel
theorem dL_law_359 : decode cL_law 359 = .ok (.iaload, 1) := by decide +kernel
theorem dL_law_360 : decode cL_law 360 = .ok (.invokevirtual 45, 3) := by decide +kernel
theorem dL_law_363 : decode cL_law 363 = .ok (.if_icmp .eq 1291, 3) := by decide +kernel
theorem dL_law_366 : decode cL_law 366 = .ok (.iconst 0, 1) := by decide +kernel
theorem dL_law_367 : decode cL_law 367 = .ok (.ireturn, 1) := by decide +kernel
theorem dL_law_368 : decode cL_law 368 = .ok (.aload_n 1, 1) := by decide +kernel
theorem dL_law_369 : decode cL_law 369 = .ok (.invokevirtual 46, 3) := by decide +kernel
theorem dL_law_372 : decode cL_law 372 = .ok (.aload_n 2, 1) := by decide +kernel
theorem dL_law_373 : decode cL_law 373 = .ok (.invokevirtual 50, 3) := by decide +kernel
theorem dL_law_376 : decode cL_law 376 = .ok (.if_icmp .eq 1278, 3) := by decide +kernel
theorem dL_law_379 : decode cL_law 379 = .ok (.iconst 0, 1) := by decide +kernel
theorem dL_law_380 : decode cL_law 380 = .ok (.ireturn, 1) := by decide +kernel
theorem dL_law_381 : decode cL_law 381 = .ok (.aload_n 1, 1) := by decide +kernel
theorem dL_law_382 : decode cL_law 382 = .ok (.invokevirtual 51, 3) := by decide +kernel
theorem dL_law_385 : decode cL_law 385 = .ok (.aload_n 2, 1) := by decide +kernel
theorem dL_law_386 : decode cL_law 386 = .ok (.invokevirtual 54, 3) := by decide +kernel
theorem dL_law_389 : decode cL_law 389 = .ok (.if_icmp .eq 1265, 3) := by decide +kernel
theorem dL_law_392 : decode cL_law 392 = .ok (.iconst 0, 1) := by decide +kernel
theorem dL_law_393 : decode cL_law 393 = .ok (.ireturn, 1) := by decide +kernel
theorem dL_law_394 : decode cL_law 394 = .ok (.aload_n 1, 1) := by decide +kernel
theorem dL_law_395 : decode cL_law 395 = .ok (.aload_n 0, 1) := by decide +kernel
theorem dL_law_396 : decode cL_law 396 = .ok (.iload 4, 2) := by decide +kernel
theorem dL_law_398 : decode cL_law 398 = .ok (.iconst 1, 1) := by decide +kernel
theorem dL_law_399 : decode cL_law 399 = .ok (.iadd, 1) := by decide +kernel
theorem dL_law_400 : decode cL_law 400 = .ok (.iaload, 1) := by decide +kernel
theorem dL_law_401 : decode cL_law 401 = .ok (.aload_n 0, 1) := by decide +kernel
theorem dL_law_402 : decode cL_law 402 = .ok (.iload 4, 2) := by decide +kernel
theorem dL_law_404 : decode cL_law 404 = .ok (.iconst 2, 1) := by decide +kernel
theorem dL_law_405 : decode cL_law 405 = .ok (.iadd, 1) := by decide +kernel
theorem dL_law_406 : decode cL_law 406 = .ok (.iaload, 1) := by decide +kernel
theorem dL_law_407 : decode cL_law 407 = .ok (.invokevirtual 55, 3) := by decide +kernel
theorem dL_law_410 : decode cL_law 410 = .ok (.aload_n 2, 1) := by decide +kernel
theorem dL_law_411 : decode cL_law 411 = .ok (.aload_n 0, 1) := by decide +kernel
theorem dL_law_412 : decode cL_law 412 = .ok (.iload 4, 2) := by decide +kernel
theorem dL_law_414 : decode cL_law 414 = .ok (.iconst 1, 1) := by decide +kernel
theorem dL_law_415 : decode cL_law 415 = .ok (.iadd, 1) := by decide +kernel
theorem dL_law_416 : decode cL_law 416 = .ok (.iaload, 1) := by decide +kernel
theorem dL_law_417 : decode cL_law 417 = .ok (.aload_n 0, 1) := by decide +kernel
theorem dL_law_418 : decode cL_law 418 = .ok (.iload 4, 2) := by decide +kernel
theorem dL_law_420 : decode cL_law 420 = .ok (.iconst 2, 1) := by decide +kernel
theorem dL_law_421 : decode cL_law 421 = .ok (.iadd, 1) := by decide +kernel
theorem dL_law_422 : decode cL_law 422 = .ok (.iaload, 1) := by decide +kernel
theorem dL_law_423 : decode cL_law 423 = .ok (.invokevirtual 58, 3) := by decide +kernel
theorem dL_law_426 : decode cL_law 426 = .ok (.if_icmp .eq 1228, 3) := by decide +kernel
theorem dL_law_429 : decode cL_law 429 = .ok (.iconst 0, 1) := by decide +kernel
theorem dL_law_430 : decode cL_law 430 = .ok (.ireturn, 1) := by decide +kernel
theorem dL_law_431 : decode cL_law 431 = .ok (.aload_n 1, 1) := by decide +kernel
theorem dL_law_432 : decode cL_law 432 = .ok (.aload_n 0, 1) := by decide +kernel
theorem dL_law_433 : decode cL_law 433 = .ok (.iload 4, 2) := by decide +kernel
theorem dL_law_435 : decode cL_law 435 = .ok (.iconst 1, 1) := by decide +kernel
theorem dL_law_436 : decode cL_law 436 = .ok (.iadd, 1) := by decide +kernel
theorem dL_law_437 : decode cL_law 437 = .ok (.iaload, 1) := by decide +kernel
theorem dL_law_438 : decode cL_law 438 = .ok (.aload_n 0, 1) := by decide +kernel
theorem dL_law_439 : decode cL_law 439 = .ok (.iload 4, 2) := by decide +kernel
theorem dL_law_441 : decode cL_law 441 = .ok (.iconst 2, 1) := by decide +kernel
theorem dL_law_442 : decode cL_law 442 = .ok (.iadd, 1) := by decide +kernel
theorem dL_law_443 : decode cL_law 443 = .ok (.iaload, 1) := by decide +kernel
theorem dL_law_444 : decode cL_law 444 = .ok (.aload_n 0, 1) := by decide +kernel
theorem dL_law_445 : decode cL_law 445 = .ok (.iload 4, 2) := by decide +kernel
theorem dL_law_447 : decode cL_law 447 = .ok (.iconst 3, 1) := by decide +kernel
theorem dL_law_448 : decode cL_law 448 = .ok (.iadd, 1) := by decide +kernel
theorem dL_law_449 : decode cL_law 449 = .ok (.iaload, 1) := by decide +kernel
theorem dL_law_450 : decode cL_law 450 = .ok (.aload_n 3, 1) := by decide +kernel
theorem dL_law_451 : decode cL_law 451 = .ok (.invokestatic 59, 3) := by decide +kernel
theorem dL_law_454 : decode cL_law 454 = .ok (.istore 5, 2) := by decide +kernel
theorem dL_law_456 : decode cL_law 456 = .ok (.aload_n 2, 1) := by decide +kernel
theorem dL_law_457 : decode cL_law 457 = .ok (.aload_n 0, 1) := by decide +kernel
theorem dL_law_458 : decode cL_law 458 = .ok (.iload 4, 2) := by decide +kernel
theorem dL_law_460 : decode cL_law 460 = .ok (.iconst 1, 1) := by decide +kernel
theorem dL_law_461 : decode cL_law 461 = .ok (.iadd, 1) := by decide +kernel
theorem dL_law_462 : decode cL_law 462 = .ok (.iaload, 1) := by decide +kernel
theorem dL_law_463 : decode cL_law 463 = .ok (.aload_n 0, 1) := by decide +kernel
theorem dL_law_464 : decode cL_law 464 = .ok (.iload 4, 2) := by decide +kernel
theorem dL_law_466 : decode cL_law 466 = .ok (.iconst 2, 1) := by decide +kernel
theorem dL_law_467 : decode cL_law 467 = .ok (.iadd, 1) := by decide +kernel
theorem dL_law_468 : decode cL_law 468 = .ok (.iaload, 1) := by decide +kernel
theorem dL_law_469 : decode cL_law 469 = .ok (.aload_n 0, 1) := by decide +kernel
theorem dL_law_470 : decode cL_law 470 = .ok (.iload 4, 2) := by decide +kernel
theorem dL_law_472 : decode cL_law 472 = .ok (.iconst 3, 1) := by decide +kernel
theorem dL_law_473 : decode cL_law 473 = .ok (.iadd, 1) := by decide +kernel
theorem dL_law_474 : decode cL_law 474 = .ok (.iaload, 1) := by decide +kernel
theorem dL_law_475 : decode cL_law 475 = .ok (.invokevirtual 64, 3) := by decide +kernel
theorem dL_law_478 : decode cL_law 478 = .ok (.istore 6, 2) := by decide +kernel
theorem dL_law_480 : decode cL_law 480 = .ok (.aload_n 2, 1) := by decide +kernel
theorem dL_law_481 : decode cL_law 481 = .ok (.invokevirtual 65, 3) := by decide +kernel
theorem dL_law_484 : decode cL_law 484 = .ok (.iload 5, 2) := by decide +kernel
theorem dL_law_486 : decode cL_law 486 = .ok (.if_icmp .eq 5, 3) := by decide +kernel
theorem dL_law_489 : decode cL_law 489 = .ok (.iconst 0, 1) := by decide +kernel
theorem dL_law_490 : decode cL_law 490 = .ok (.ireturn, 1) := by decide +kernel
theorem dL_law_491 : decode cL_law 491 = .ok (.iload 5, 2) := by decide +kernel
theorem dL_law_493 : decode cL_law 493 = .ok (.ifCond .ne 15, 3) := by decide +kernel
theorem dL_law_496 : decode cL_law 496 = .ok (.aload_n 3, 1) := by decide +kernel
theorem dL_law_497 : decode cL_law 497 = .ok (.iconst 0, 1) := by decide +kernel
theorem dL_law_498 : decode cL_law 498 = .ok (.laload, 1) := by decide +kernel
theorem dL_law_499 : decode cL_law 499 = .ok (.iload 6, 2) := by decide +kernel
theorem dL_law_501 : decode cL_law 501 = .ok (.i2l, 1) := by decide +kernel
theorem dL_law_502 : decode cL_law 502 = .ok (.lcmp, 1) := by decide +kernel
theorem dL_law_503 : decode cL_law 503 = .ok (.ifCond .eq 5, 3) := by decide +kernel
theorem dL_law_506 : decode cL_law 506 = .ok (.iconst 0, 1) := by decide +kernel
theorem dL_law_507 : decode cL_law 507 = .ok (.ireturn, 1) := by decide +kernel
theorem dL_law_508 : decode cL_law 508 = .ok (.goto 1146, 3) := by decide +kernel
theorem dL_law_511 : decode cL_law 511 = .ok (.aload_n 1, 1) := by decide +kernel
theorem dL_law_512 : decode cL_law 512 = .ok (.aload_n 0, 1) := by decide +kernel
theorem dL_law_513 : decode cL_law 513 = .ok (.iload 4, 2) := by decide +kernel
theorem dL_law_515 : decode cL_law 515 = .ok (.iconst 1, 1) := by decide +kernel
theorem dL_law_516 : decode cL_law 516 = .ok (.iadd, 1) := by decide +kernel
theorem dL_law_517 : decode cL_law 517 = .ok (.iaload, 1) := by decide +kernel
theorem dL_law_518 : decode cL_law 518 = .ok (.aload_n 0, 1) := by decide +kernel
theorem dL_law_519 : decode cL_law 519 = .ok (.iload 4, 2) := by decide +kernel
theorem dL_law_521 : decode cL_law 521 = .ok (.iconst 2, 1) := by decide +kernel
theorem dL_law_522 : decode cL_law 522 = .ok (.iadd, 1) := by decide +kernel
theorem dL_law_523 : decode cL_law 523 = .ok (.iaload, 1) := by decide +kernel
theorem dL_law_524 : decode cL_law 524 = .ok (.invokevirtual 68, 3) := by decide +kernel
theorem dL_law_527 : decode cL_law 527 = .ok (.aload_n 2, 1) := by decide +kernel
theorem dL_law_528 : decode cL_law 528 = .ok (.aload_n 0, 1) := by decide +kernel
theorem dL_law_529 : decode cL_law 529 = .ok (.iload 4, 2) := by decide +kernel
theorem dL_law_531 : decode cL_law 531 = .ok (.iconst 1, 1) := by decide +kernel
theorem dL_law_532 : decode cL_law 532 = .ok (.iadd, 1) := by decide +kernel
theorem dL_law_533 : decode cL_law 533 = .ok (.iaload, 1) := by decide +kernel
theorem dL_law_534 : decode cL_law 534 = .ok (.aload_n 0, 1) := by decide +kernel
theorem dL_law_535 : decode cL_law 535 = .ok (.iload 4, 2) := by decide +kernel
theorem dL_law_537 : decode cL_law 537 = .ok (.iconst 2, 1) := by decide +kernel
theorem dL_law_538 : decode cL_law 538 = .ok (.iadd, 1) := by decide +kernel
theorem dL_law_539 : decode cL_law 539 = .ok (.iaload, 1) := by decide +kernel
theorem dL_law_540 : decode cL_law 540 = .ok (.invokevirtual 71, 3) := by decide +kernel
theorem dL_law_543 : decode cL_law 543 = .ok (.if_icmp .eq 1111, 3) := by decide +kernel
theorem dL_law_546 : decode cL_law 546 = .ok (.iconst 0, 1) := by decide +kernel
theorem dL_law_547 : decode cL_law 547 = .ok (.ireturn, 1) := by decide +kernel
theorem dL_law_548 : decode cL_law 548 = .ok (.aload_n 1, 1) := by decide +kernel
theorem dL_law_549 : decode cL_law 549 = .ok (.aload_n 0, 1) := by decide +kernel
theorem dL_law_550 : decode cL_law 550 = .ok (.iload 4, 2) := by decide +kernel
theorem dL_law_552 : decode cL_law 552 = .ok (.iconst 1, 1) := by decide +kernel
theorem dL_law_553 : decode cL_law 553 = .ok (.iadd, 1) := by decide +kernel
theorem dL_law_554 : decode cL_law 554 = .ok (.iaload, 1) := by decide +kernel
theorem dL_law_555 : decode cL_law 555 = .ok (.aload_n 0, 1) := by decide +kernel
theorem dL_law_556 : decode cL_law 556 = .ok (.iload 4, 2) := by decide +kernel
theorem dL_law_558 : decode cL_law 558 = .ok (.iconst 2, 1) := by decide +kernel
theorem dL_law_559 : decode cL_law 559 = .ok (.iadd, 1) := by decide +kernel
theorem dL_law_560 : decode cL_law 560 = .ok (.iaload, 1) := by decide +kernel
theorem dL_law_561 : decode cL_law 561 = .ok (.invokevirtual 72, 3) := by decide +kernel
theorem dL_law_564 : decode cL_law 564 = .ok (.aload_n 2, 1) := by decide +kernel
theorem dL_law_565 : decode cL_law 565 = .ok (.aload_n 0, 1) := by decide +kernel
theorem dL_law_566 : decode cL_law 566 = .ok (.iload 4, 2) := by decide +kernel
theorem dL_law_568 : decode cL_law 568 = .ok (.iconst 1, 1) := by decide +kernel
theorem dL_law_569 : decode cL_law 569 = .ok (.iadd, 1) := by decide +kernel
theorem dL_law_570 : decode cL_law 570 = .ok (.iaload, 1) := by decide +kernel
theorem dL_law_571 : decode cL_law 571 = .ok (.aload_n 0, 1) := by decide +kernel
theorem dL_law_572 : decode cL_law 572 = .ok (.iload 4, 2) := by decide +kernel
theorem dL_law_574 : decode cL_law 574 = .ok (.iconst 2, 1) := by decide +kernel
theorem dL_law_575 : decode cL_law 575 = .ok (.iadd, 1) := by decide +kernel
theorem dL_law_576 : decode cL_law 576 = .ok (.iaload, 1) := by decide +kernel
theorem dL_law_577 : decode cL_law 577 = .ok (.invokevirtual 75, 3) := by decide +kernel
theorem dL_law_580 : decode cL_law 580 = .ok (.if_icmp .eq 1074, 3) := by decide +kernel
theorem dL_law_583 : decode cL_law 583 = .ok (.iconst 0, 1) := by decide +kernel
theorem dL_law_584 : decode cL_law 584 = .ok (.ireturn, 1) := by decide +kernel
theorem dL_law_585 : decode cL_law 585 = .ok (.aload_n 1, 1) := by decide +kernel
theorem dL_law_586 : decode cL_law 586 = .ok (.aload_n 0, 1) := by decide +kernel
theorem dL_law_587 : decode cL_law 587 = .ok (.iload 4, 2) := by decide +kernel
theorem dL_law_589 : decode cL_law 589 = .ok (.iconst 1, 1) := by decide +kernel
theorem dL_law_590 : decode cL_law 590 = .ok (.iadd, 1) := by decide +kernel
theorem dL_law_591 : decode cL_law 591 = .ok (.iaload, 1) := by decide +kernel
theorem dL_law_592 : decode cL_law 592 = .ok (.aload_n 0, 1) := by decide +kernel
theorem dL_law_593 : decode cL_law 593 = .ok (.iload 4, 2) := by decide +kernel
theorem dL_law_595 : decode cL_law 595 = .ok (.iconst 2, 1) := by decide +kernel
theorem dL_law_596 : decode cL_law 596 = .ok (.iadd, 1) := by decide +kernel
theorem dL_law_597 : decode cL_law 597 = .ok (.iaload, 1) := by decide +kernel
theorem dL_law_598 : decode cL_law 598 = .ok (.invokevirtual 76, 3) := by decide +kernel
theorem dL_law_601 : decode cL_law 601 = .ok (.aload_n 2, 1) := by decide +kernel
theorem dL_law_602 : decode cL_law 602 = .ok (.aload_n 0, 1) := by decide +kernel
theorem dL_law_603 : decode cL_law 603 = .ok (.iload 4, 2) := by decide +kernel
theorem dL_law_605 : decode cL_law 605 = .ok (.iconst 1, 1) := by decide +kernel
theorem dL_law_606 : decode cL_law 606 = .ok (.iadd, 1) := by decide +kernel
theorem dL_law_607 : decode cL_law 607 = .ok (.iaload, 1) := by decide +kernel
theorem dL_law_608 : decode cL_law 608 = .ok (.aload_n 0, 1) := by decide +kernel
theorem dL_law_609 : decode cL_law 609 = .ok (.iload 4, 2) := by decide +kernel
theorem dL_law_611 : decode cL_law 611 = .ok (.iconst 2, 1) := by decide +kernel
theorem dL_law_612 : decode cL_law 612 = .ok (.iadd, 1) := by decide +kernel
theorem dL_law_613 : decode cL_law 613 = .ok (.iaload, 1) := by decide +kernel
theorem dL_law_614 : decode cL_law 614 = .ok (.invokevirtual 79, 3) := by decide +kernel
theorem dL_law_617 : decode cL_law 617 = .ok (.if_icmp .eq 1037, 3) := by decide +kernel
theorem dL_law_620 : decode cL_law 620 = .ok (.iconst 0, 1) := by decide +kernel
theorem dL_law_621 : decode cL_law 621 = .ok (.ireturn, 1) := by decide +kernel
theorem dL_law_622 : decode cL_law 622 = .ok (.aload_n 1, 1) := by decide +kernel
theorem dL_law_623 : decode cL_law 623 = .ok (.aload_n 0, 1) := by decide +kernel
theorem dL_law_624 : decode cL_law 624 = .ok (.iload 4, 2) := by decide +kernel
theorem dL_law_626 : decode cL_law 626 = .ok (.iconst 1, 1) := by decide +kernel
theorem dL_law_627 : decode cL_law 627 = .ok (.iadd, 1) := by decide +kernel
theorem dL_law_628 : decode cL_law 628 = .ok (.iaload, 1) := by decide +kernel
theorem dL_law_629 : decode cL_law 629 = .ok (.invokevirtual 80, 3) := by decide +kernel
theorem dL_law_632 : decode cL_law 632 = .ok (.aload_n 2, 1) := by decide +kernel
theorem dL_law_633 : decode cL_law 633 = .ok (.aload_n 0, 1) := by decide +kernel
theorem dL_law_634 : decode cL_law 634 = .ok (.iload 4, 2) := by decide +kernel
theorem dL_law_636 : decode cL_law 636 = .ok (.iconst 1, 1) := by decide +kernel
theorem dL_law_637 : decode cL_law 637 = .ok (.iadd, 1) := by decide +kernel
theorem dL_law_638 : decode cL_law 638 = .ok (.iaload, 1) := by decide +kernel
theorem dL_law_639 : decode cL_law 639 = .ok (.invokevirtual 83, 3) := by decide +kernel
theorem dL_law_642 : decode cL_law 642 = .ok (.if_icmp .eq 1012, 3) := by decide +kernel
theorem dL_law_645 : decode cL_law 645 = .ok (.iconst 0, 1) := by decide +kernel
theorem dL_law_646 : decode cL_law 646 = .ok (.ireturn, 1) := by decide +kernel
theorem dL_law_647 : decode cL_law 647 = .ok (.aload_n 1, 1) := by decide +kernel
theorem dL_law_648 : decode cL_law 648 = .ok (.aload_n 0, 1) := by decide +kernel
theorem dL_law_649 : decode cL_law 649 = .ok (.iload 4, 2) := by decide +kernel
theorem dL_law_651 : decode cL_law 651 = .ok (.iconst 1, 1) := by decide +kernel
theorem dL_law_652 : decode cL_law 652 = .ok (.iadd, 1) := by decide +kernel
theorem dL_law_653 : decode cL_law 653 = .ok (.iaload, 1) := by decide +kernel
theorem dL_law_654 : decode cL_law 654 = .ok (.aload_n 0, 1) := by decide +kernel
theorem dL_law_655 : decode cL_law 655 = .ok (.iload 4, 2) := by decide +kernel
theorem dL_law_657 : decode cL_law 657 = .ok (.iconst 2, 1) := by decide +kernel
theorem dL_law_658 : decode cL_law 658 = .ok (.iadd, 1) := by decide +kernel
theorem dL_law_659 : decode cL_law 659 = .ok (.iaload, 1) := by decide +kernel
theorem dL_law_660 : decode cL_law 660 = .ok (.invokevirtual 84, 3) := by decide +kernel
theorem dL_law_663 : decode cL_law 663 = .ok (.aload_n 2, 1) := by decide +kernel
theorem dL_law_664 : decode cL_law 664 = .ok (.aload_n 0, 1) := by decide +kernel
theorem dL_law_665 : decode cL_law 665 = .ok (.iload 4, 2) := by decide +kernel
theorem dL_law_667 : decode cL_law 667 = .ok (.iconst 1, 1) := by decide +kernel
theorem dL_law_668 : decode cL_law 668 = .ok (.iadd, 1) := by decide +kernel
theorem dL_law_669 : decode cL_law 669 = .ok (.iaload, 1) := by decide +kernel
theorem dL_law_670 : decode cL_law 670 = .ok (.aload_n 0, 1) := by decide +kernel
theorem dL_law_671 : decode cL_law 671 = .ok (.iload 4, 2) := by decide +kernel
theorem dL_law_673 : decode cL_law 673 = .ok (.iconst 2, 1) := by decide +kernel
theorem dL_law_674 : decode cL_law 674 = .ok (.iadd, 1) := by decide +kernel
theorem dL_law_675 : decode cL_law 675 = .ok (.iaload, 1) := by decide +kernel
theorem dL_law_676 : decode cL_law 676 = .ok (.invokevirtual 87, 3) := by decide +kernel
theorem dL_law_679 : decode cL_law 679 = .ok (.if_icmp .eq 975, 3) := by decide +kernel
theorem dL_law_682 : decode cL_law 682 = .ok (.iconst 0, 1) := by decide +kernel
theorem dL_law_683 : decode cL_law 683 = .ok (.ireturn, 1) := by decide +kernel
theorem dL_law_684 : decode cL_law 684 = .ok (.aload_n 1, 1) := by decide +kernel
theorem dL_law_685 : decode cL_law 685 = .ok (.aload_n 0, 1) := by decide +kernel
theorem dL_law_686 : decode cL_law 686 = .ok (.iload 4, 2) := by decide +kernel
theorem dL_law_688 : decode cL_law 688 = .ok (.iconst 1, 1) := by decide +kernel
theorem dL_law_689 : decode cL_law 689 = .ok (.iadd, 1) := by decide +kernel
theorem dL_law_690 : decode cL_law 690 = .ok (.iaload, 1) := by decide +kernel
theorem dL_law_691 : decode cL_law 691 = .ok (.invokevirtual 88, 3) := by decide +kernel
theorem dL_law_694 : decode cL_law 694 = .ok (.aload_n 2, 1) := by decide +kernel
theorem dL_law_695 : decode cL_law 695 = .ok (.aload_n 0, 1) := by decide +kernel
theorem dL_law_696 : decode cL_law 696 = .ok (.iload 4, 2) := by decide +kernel
theorem dL_law_698 : decode cL_law 698 = .ok (.iconst 1, 1) := by decide +kernel
theorem dL_law_699 : decode cL_law 699 = .ok (.iadd, 1) := by decide +kernel
theorem dL_law_700 : decode cL_law 700 = .ok (.iaload, 1) := by decide +kernel
theorem dL_law_701 : decode cL_law 701 = .ok (.invokevirtual 91, 3) := by decide +kernel
theorem dL_law_704 : decode cL_law 704 = .ok (.if_icmp .eq 950, 3) := by decide +kernel
theorem dL_law_707 : decode cL_law 707 = .ok (.iconst 0, 1) := by decide +kernel
theorem dL_law_708 : decode cL_law 708 = .ok (.ireturn, 1) := by decide +kernel
theorem dL_law_709 : decode cL_law 709 = .ok (.aload_n 1, 1) := by decide +kernel
theorem dL_law_710 : decode cL_law 710 = .ok (.aload_n 0, 1) := by decide +kernel
theorem dL_law_711 : decode cL_law 711 = .ok (.iload 4, 2) := by decide +kernel
theorem dL_law_713 : decode cL_law 713 = .ok (.iconst 1, 1) := by decide +kernel
theorem dL_law_714 : decode cL_law 714 = .ok (.iadd, 1) := by decide +kernel
theorem dL_law_715 : decode cL_law 715 = .ok (.iaload, 1) := by decide +kernel
theorem dL_law_716 : decode cL_law 716 = .ok (.aload_n 0, 1) := by decide +kernel
theorem dL_law_717 : decode cL_law 717 = .ok (.iload 4, 2) := by decide +kernel
theorem dL_law_719 : decode cL_law 719 = .ok (.iconst 2, 1) := by decide +kernel
theorem dL_law_720 : decode cL_law 720 = .ok (.iadd, 1) := by decide +kernel
theorem dL_law_721 : decode cL_law 721 = .ok (.iaload, 1) := by decide +kernel
theorem dL_law_722 : decode cL_law 722 = .ok (.aload_n 0, 1) := by decide +kernel
theorem dL_law_723 : decode cL_law 723 = .ok (.iload 4, 2) := by decide +kernel
theorem dL_law_725 : decode cL_law 725 = .ok (.iconst 3, 1) := by decide +kernel
theorem dL_law_726 : decode cL_law 726 = .ok (.iadd, 1) := by decide +kernel
theorem dL_law_727 : decode cL_law 727 = .ok (.iaload, 1) := by decide +kernel
theorem dL_law_728 : decode cL_law 728 = .ok (.invokevirtual 92, 3) := by decide +kernel
theorem dL_law_731 : decode cL_law 731 = .ok (.aload_n 2, 1) := by decide +kernel
theorem dL_law_732 : decode cL_law 732 = .ok (.aload_n 0, 1) := by decide +kernel
theorem dL_law_733 : decode cL_law 733 = .ok (.iload 4, 2) := by decide +kernel
theorem dL_law_735 : decode cL_law 735 = .ok (.iconst 1, 1) := by decide +kernel
theorem dL_law_736 : decode cL_law 736 = .ok (.iadd, 1) := by decide +kernel
theorem dL_law_737 : decode cL_law 737 = .ok (.iaload, 1) := by decide +kernel
theorem dL_law_738 : decode cL_law 738 = .ok (.aload_n 0, 1) := by decide +kernel
theorem dL_law_739 : decode cL_law 739 = .ok (.iload 4, 2) := by decide +kernel
theorem dL_law_741 : decode cL_law 741 = .ok (.iconst 2, 1) := by decide +kernel
theorem dL_law_742 : decode cL_law 742 = .ok (.iadd, 1) := by decide +kernel
theorem dL_law_743 : decode cL_law 743 = .ok (.iaload, 1) := by decide +kernel
theorem dL_law_744 : decode cL_law 744 = .ok (.aload_n 0, 1) := by decide +kernel
theorem dL_law_745 : decode cL_law 745 = .ok (.iload 4, 2) := by decide +kernel
theorem dL_law_747 : decode cL_law 747 = .ok (.iconst 3, 1) := by decide +kernel
theorem dL_law_748 : decode cL_law 748 = .ok (.iadd, 1) := by decide +kernel
theorem dL_law_749 : decode cL_law 749 = .ok (.iaload, 1) := by decide +kernel
theorem dL_law_750 : decode cL_law 750 = .ok (.invokevirtual 95, 3) := by decide +kernel
theorem dL_law_753 : decode cL_law 753 = .ok (.if_icmp .eq 901, 3) := by decide +kernel
theorem dL_law_756 : decode cL_law 756 = .ok (.iconst 0, 1) := by decide +kernel
theorem dL_law_757 : decode cL_law 757 = .ok (.ireturn, 1) := by decide +kernel
theorem dL_law_758 : decode cL_law 758 = .ok (.aload_n 1, 1) := by decide +kernel
theorem dL_law_759 : decode cL_law 759 = .ok (.aload_n 0, 1) := by decide +kernel
theorem dL_law_760 : decode cL_law 760 = .ok (.iload 4, 2) := by decide +kernel
theorem dL_law_762 : decode cL_law 762 = .ok (.iconst 1, 1) := by decide +kernel
theorem dL_law_763 : decode cL_law 763 = .ok (.iadd, 1) := by decide +kernel
theorem dL_law_764 : decode cL_law 764 = .ok (.iaload, 1) := by decide +kernel
theorem dL_law_765 : decode cL_law 765 = .ok (.invokevirtual 96, 3) := by decide +kernel
theorem dL_law_768 : decode cL_law 768 = .ok (.aload_n 2, 1) := by decide +kernel
theorem dL_law_769 : decode cL_law 769 = .ok (.aload_n 0, 1) := by decide +kernel
theorem dL_law_770 : decode cL_law 770 = .ok (.iload 4, 2) := by decide +kernel
theorem dL_law_772 : decode cL_law 772 = .ok (.iconst 1, 1) := by decide +kernel
theorem dL_law_773 : decode cL_law 773 = .ok (.iadd, 1) := by decide +kernel
theorem dL_law_774 : decode cL_law 774 = .ok (.iaload, 1) := by decide +kernel
theorem dL_law_775 : decode cL_law 775 = .ok (.invokevirtual 99, 3) := by decide +kernel
theorem dL_law_778 : decode cL_law 778 = .ok (.if_icmp .eq 876, 3) := by decide +kernel
theorem dL_law_781 : decode cL_law 781 = .ok (.iconst 0, 1) := by decide +kernel
theorem dL_law_782 : decode cL_law 782 = .ok (.ireturn, 1) := by decide +kernel
theorem dL_law_783 : decode cL_law 783 = .ok (.aload_n 1, 1) := by decide +kernel
theorem dL_law_784 : decode cL_law 784 = .ok (.aload_n 0, 1) := by decide +kernel
theorem dL_law_785 : decode cL_law 785 = .ok (.iload 4, 2) := by decide +kernel
theorem dL_law_787 : decode cL_law 787 = .ok (.iconst 1, 1) := by decide +kernel
theorem dL_law_788 : decode cL_law 788 = .ok (.iadd, 1) := by decide +kernel
theorem dL_law_789 : decode cL_law 789 = .ok (.iaload, 1) := by decide +kernel
theorem dL_law_790 : decode cL_law 790 = .ok (.aload_n 0, 1) := by decide +kernel
theorem dL_law_791 : decode cL_law 791 = .ok (.iload 4, 2) := by decide +kernel
theorem dL_law_793 : decode cL_law 793 = .ok (.iconst 2, 1) := by decide +kernel
theorem dL_law_794 : decode cL_law 794 = .ok (.iadd, 1) := by decide +kernel
theorem dL_law_795 : decode cL_law 795 = .ok (.iaload, 1) := by decide +kernel
theorem dL_law_796 : decode cL_law 796 = .ok (.aload_n 0, 1) := by decide +kernel
theorem dL_law_797 : decode cL_law 797 = .ok (.iload 4, 2) := by decide +kernel
theorem dL_law_799 : decode cL_law 799 = .ok (.iconst 3, 1) := by decide +kernel
theorem dL_law_800 : decode cL_law 800 = .ok (.iadd, 1) := by decide +kernel
theorem dL_law_801 : decode cL_law 801 = .ok (.iaload, 1) := by decide +kernel
theorem dL_law_802 : decode cL_law 802 = .ok (.aload_n 0, 1) := by decide +kernel
theorem dL_law_803 : decode cL_law 803 = .ok (.iload 4, 2) := by decide +kernel
theorem dL_law_805 : decode cL_law 805 = .ok (.iconst 4, 1) := by decide +kernel
theorem dL_law_806 : decode cL_law 806 = .ok (.iadd, 1) := by decide +kernel
theorem dL_law_807 : decode cL_law 807 = .ok (.iaload, 1) := by decide +kernel
theorem dL_law_808 : decode cL_law 808 = .ok (.invokevirtual 100, 3) := by decide +kernel
theorem dL_law_811 : decode cL_law 811 = .ok (.aload_n 2, 1) := by decide +kernel
theorem dL_law_812 : decode cL_law 812 = .ok (.aload_n 0, 1) := by decide +kernel
theorem dL_law_813 : decode cL_law 813 = .ok (.iload 4, 2) := by decide +kernel
theorem dL_law_815 : decode cL_law 815 = .ok (.iconst 1, 1) := by decide +kernel
theorem dL_law_816 : decode cL_law 816 = .ok (.iadd, 1) := by decide +kernel
theorem dL_law_817 : decode cL_law 817 = .ok (.iaload, 1) := by decide +kernel
theorem dL_law_818 : decode cL_law 818 = .ok (.aload_n 0, 1) := by decide +kernel
theorem dL_law_819 : decode cL_law 819 = .ok (.iload 4, 2) := by decide +kernel
theorem dL_law_821 : decode cL_law 821 = .ok (.iconst 2, 1) := by decide +kernel
theorem dL_law_822 : decode cL_law 822 = .ok (.iadd, 1) := by decide +kernel
theorem dL_law_823 : decode cL_law 823 = .ok (.iaload, 1) := by decide +kernel
theorem dL_law_824 : decode cL_law 824 = .ok (.aload_n 0, 1) := by decide +kernel
theorem dL_law_825 : decode cL_law 825 = .ok (.iload 4, 2) := by decide +kernel
theorem dL_law_827 : decode cL_law 827 = .ok (.iconst 3, 1) := by decide +kernel
theorem dL_law_828 : decode cL_law 828 = .ok (.iadd, 1) := by decide +kernel
theorem dL_law_829 : decode cL_law 829 = .ok (.iaload, 1) := by decide +kernel
theorem dL_law_830 : decode cL_law 830 = .ok (.aload_n 0, 1) := by decide +kernel
theorem dL_law_831 : decode cL_law 831 = .ok (.iload 4, 2) := by decide +kernel
theorem dL_law_833 : decode cL_law 833 = .ok (.iconst 4, 1) := by decide +kernel
theorem dL_law_834 : decode cL_law 834 = .ok (.iadd, 1) := by decide +kernel
theorem dL_law_835 : decode cL_law 835 = .ok (.iaload, 1) := by decide +kernel
theorem dL_law_836 : decode cL_law 836 = .ok (.invokevirtual 104, 3) := by decide +kernel
theorem dL_law_839 : decode cL_law 839 = .ok (.if_icmp .eq 815, 3) := by decide +kernel
theorem dL_law_842 : decode cL_law 842 = .ok (.iconst 0, 1) := by decide +kernel
theorem dL_law_843 : decode cL_law 843 = .ok (.ireturn, 1) := by decide +kernel
theorem dL_law_844 : decode cL_law 844 = .ok (.aload_n 1, 1) := by decide +kernel
theorem dL_law_845 : decode cL_law 845 = .ok (.aload_n 0, 1) := by decide +kernel
theorem dL_law_846 : decode cL_law 846 = .ok (.iload 4, 2) := by decide +kernel
theorem dL_law_848 : decode cL_law 848 = .ok (.iconst 1, 1) := by decide +kernel
theorem dL_law_849 : decode cL_law 849 = .ok (.iadd, 1) := by decide +kernel
theorem dL_law_850 : decode cL_law 850 = .ok (.iaload, 1) := by decide +kernel
theorem dL_law_851 : decode cL_law 851 = .ok (.aload_n 0, 1) := by decide +kernel
theorem dL_law_852 : decode cL_law 852 = .ok (.iload 4, 2) := by decide +kernel
theorem dL_law_854 : decode cL_law 854 = .ok (.iconst 2, 1) := by decide +kernel
theorem dL_law_855 : decode cL_law 855 = .ok (.iadd, 1) := by decide +kernel
theorem dL_law_856 : decode cL_law 856 = .ok (.iaload, 1) := by decide +kernel
theorem dL_law_857 : decode cL_law 857 = .ok (.invokevirtual 105, 3) := by decide +kernel
theorem dL_law_860 : decode cL_law 860 = .ok (.aload_n 2, 1) := by decide +kernel
theorem dL_law_861 : decode cL_law 861 = .ok (.aload_n 0, 1) := by decide +kernel
theorem dL_law_862 : decode cL_law 862 = .ok (.iload 4, 2) := by decide +kernel
theorem dL_law_864 : decode cL_law 864 = .ok (.iconst 1, 1) := by decide +kernel
theorem dL_law_865 : decode cL_law 865 = .ok (.iadd, 1) := by decide +kernel
theorem dL_law_866 : decode cL_law 866 = .ok (.iaload, 1) := by decide +kernel
theorem dL_law_867 : decode cL_law 867 = .ok (.aload_n 0, 1) := by decide +kernel
theorem dL_law_868 : decode cL_law 868 = .ok (.iload 4, 2) := by decide +kernel
theorem dL_law_870 : decode cL_law 870 = .ok (.iconst 2, 1) := by decide +kernel
theorem dL_law_871 : decode cL_law 871 = .ok (.iadd, 1) := by decide +kernel
theorem dL_law_872 : decode cL_law 872 = .ok (.iaload, 1) := by decide +kernel
theorem dL_law_873 : decode cL_law 873 = .ok (.invokevirtual 108, 3) := by decide +kernel
theorem dL_law_876 : decode cL_law 876 = .ok (.if_icmp .eq 778, 3) := by decide +kernel
theorem dL_law_879 : decode cL_law 879 = .ok (.iconst 0, 1) := by decide +kernel
theorem dL_law_880 : decode cL_law 880 = .ok (.ireturn, 1) := by decide +kernel
theorem dL_law_881 : decode cL_law 881 = .ok (.aload_n 1, 1) := by decide +kernel
theorem dL_law_882 : decode cL_law 882 = .ok (.aload_n 0, 1) := by decide +kernel
theorem dL_law_883 : decode cL_law 883 = .ok (.iload 4, 2) := by decide +kernel
theorem dL_law_885 : decode cL_law 885 = .ok (.iconst 1, 1) := by decide +kernel
theorem dL_law_886 : decode cL_law 886 = .ok (.iadd, 1) := by decide +kernel
theorem dL_law_887 : decode cL_law 887 = .ok (.iaload, 1) := by decide +kernel
theorem dL_law_888 : decode cL_law 888 = .ok (.aload_n 0, 1) := by decide +kernel
theorem dL_law_889 : decode cL_law 889 = .ok (.iload 4, 2) := by decide +kernel
theorem dL_law_891 : decode cL_law 891 = .ok (.iconst 2, 1) := by decide +kernel
theorem dL_law_892 : decode cL_law 892 = .ok (.iadd, 1) := by decide +kernel
theorem dL_law_893 : decode cL_law 893 = .ok (.iaload, 1) := by decide +kernel
theorem dL_law_894 : decode cL_law 894 = .ok (.aload_n 0, 1) := by decide +kernel
theorem dL_law_895 : decode cL_law 895 = .ok (.iload 4, 2) := by decide +kernel
theorem dL_law_897 : decode cL_law 897 = .ok (.iconst 3, 1) := by decide +kernel
theorem dL_law_898 : decode cL_law 898 = .ok (.iadd, 1) := by decide +kernel
theorem dL_law_899 : decode cL_law 899 = .ok (.iaload, 1) := by decide +kernel
theorem dL_law_900 : decode cL_law 900 = .ok (.invokevirtual 109, 3) := by decide +kernel
theorem dL_law_903 : decode cL_law 903 = .ok (.aload_n 2, 1) := by decide +kernel
theorem dL_law_904 : decode cL_law 904 = .ok (.aload_n 0, 1) := by decide +kernel
theorem dL_law_905 : decode cL_law 905 = .ok (.iload 4, 2) := by decide +kernel
theorem dL_law_907 : decode cL_law 907 = .ok (.iconst 1, 1) := by decide +kernel
theorem dL_law_908 : decode cL_law 908 = .ok (.iadd, 1) := by decide +kernel
theorem dL_law_909 : decode cL_law 909 = .ok (.iaload, 1) := by decide +kernel
theorem dL_law_910 : decode cL_law 910 = .ok (.aload_n 0, 1) := by decide +kernel
theorem dL_law_911 : decode cL_law 911 = .ok (.iload 4, 2) := by decide +kernel
theorem dL_law_913 : decode cL_law 913 = .ok (.iconst 2, 1) := by decide +kernel
theorem dL_law_914 : decode cL_law 914 = .ok (.iadd, 1) := by decide +kernel
theorem dL_law_915 : decode cL_law 915 = .ok (.iaload, 1) := by decide +kernel
theorem dL_law_916 : decode cL_law 916 = .ok (.aload_n 0, 1) := by decide +kernel
theorem dL_law_917 : decode cL_law 917 = .ok (.iload 4, 2) := by decide +kernel
theorem dL_law_919 : decode cL_law 919 = .ok (.iconst 3, 1) := by decide +kernel
theorem dL_law_920 : decode cL_law 920 = .ok (.iadd, 1) := by decide +kernel
theorem dL_law_921 : decode cL_law 921 = .ok (.iaload, 1) := by decide +kernel
theorem dL_law_922 : decode cL_law 922 = .ok (.invokevirtual 112, 3) := by decide +kernel
theorem dL_law_925 : decode cL_law 925 = .ok (.if_icmp .eq 729, 3) := by decide +kernel
theorem dL_law_928 : decode cL_law 928 = .ok (.iconst 0, 1) := by decide +kernel
theorem dL_law_929 : decode cL_law 929 = .ok (.ireturn, 1) := by decide +kernel
theorem dL_law_930 : decode cL_law 930 = .ok (.aload_n 1, 1) := by decide +kernel
theorem dL_law_931 : decode cL_law 931 = .ok (.aload_n 0, 1) := by decide +kernel
theorem dL_law_932 : decode cL_law 932 = .ok (.iload 4, 2) := by decide +kernel
theorem dL_law_934 : decode cL_law 934 = .ok (.iconst 1, 1) := by decide +kernel
theorem dL_law_935 : decode cL_law 935 = .ok (.iadd, 1) := by decide +kernel
theorem dL_law_936 : decode cL_law 936 = .ok (.iaload, 1) := by decide +kernel
theorem dL_law_937 : decode cL_law 937 = .ok (.aload_n 0, 1) := by decide +kernel
theorem dL_law_938 : decode cL_law 938 = .ok (.iload 4, 2) := by decide +kernel
theorem dL_law_940 : decode cL_law 940 = .ok (.iconst 2, 1) := by decide +kernel
theorem dL_law_941 : decode cL_law 941 = .ok (.iadd, 1) := by decide +kernel
theorem dL_law_942 : decode cL_law 942 = .ok (.iaload, 1) := by decide +kernel
theorem dL_law_943 : decode cL_law 943 = .ok (.aload_n 0, 1) := by decide +kernel
theorem dL_law_944 : decode cL_law 944 = .ok (.iload 4, 2) := by decide +kernel
theorem dL_law_946 : decode cL_law 946 = .ok (.iconst 3, 1) := by decide +kernel
theorem dL_law_947 : decode cL_law 947 = .ok (.iadd, 1) := by decide +kernel
theorem dL_law_948 : decode cL_law 948 = .ok (.iaload, 1) := by decide +kernel
theorem dL_law_949 : decode cL_law 949 = .ok (.invokevirtual 113, 3) := by decide +kernel
theorem dL_law_952 : decode cL_law 952 = .ok (.aload_n 2, 1) := by decide +kernel
theorem dL_law_953 : decode cL_law 953 = .ok (.aload_n 0, 1) := by decide +kernel
theorem dL_law_954 : decode cL_law 954 = .ok (.iload 4, 2) := by decide +kernel
theorem dL_law_956 : decode cL_law 956 = .ok (.iconst 1, 1) := by decide +kernel
theorem dL_law_957 : decode cL_law 957 = .ok (.iadd, 1) := by decide +kernel
theorem dL_law_958 : decode cL_law 958 = .ok (.iaload, 1) := by decide +kernel
theorem dL_law_959 : decode cL_law 959 = .ok (.aload_n 0, 1) := by decide +kernel
theorem dL_law_960 : decode cL_law 960 = .ok (.iload 4, 2) := by decide +kernel
theorem dL_law_962 : decode cL_law 962 = .ok (.iconst 2, 1) := by decide +kernel
theorem dL_law_963 : decode cL_law 963 = .ok (.iadd, 1) := by decide +kernel
theorem dL_law_964 : decode cL_law 964 = .ok (.iaload, 1) := by decide +kernel
theorem dL_law_965 : decode cL_law 965 = .ok (.aload_n 0, 1) := by decide +kernel
theorem dL_law_966 : decode cL_law 966 = .ok (.iload 4, 2) := by decide +kernel
theorem dL_law_968 : decode cL_law 968 = .ok (.iconst 3, 1) := by decide +kernel
theorem dL_law_969 : decode cL_law 969 = .ok (.iadd, 1) := by decide +kernel
theorem dL_law_970 : decode cL_law 970 = .ok (.iaload, 1) := by decide +kernel
theorem dL_law_971 : decode cL_law 971 = .ok (.invokevirtual 116, 3) := by decide +kernel
theorem dL_law_974 : decode cL_law 974 = .ok (.if_icmp .eq 680, 3) := by decide +kernel
theorem dL_law_977 : decode cL_law 977 = .ok (.iconst 0, 1) := by decide +kernel
theorem dL_law_978 : decode cL_law 978 = .ok (.ireturn, 1) := by decide +kernel
theorem dL_law_979 : decode cL_law 979 = .ok (.aload_n 1, 1) := by decide +kernel
theorem dL_law_980 : decode cL_law 980 = .ok (.aload_n 0, 1) := by decide +kernel
theorem dL_law_981 : decode cL_law 981 = .ok (.iload 4, 2) := by decide +kernel
theorem dL_law_983 : decode cL_law 983 = .ok (.iconst 1, 1) := by decide +kernel
theorem dL_law_984 : decode cL_law 984 = .ok (.iadd, 1) := by decide +kernel
theorem dL_law_985 : decode cL_law 985 = .ok (.iaload, 1) := by decide +kernel
theorem dL_law_986 : decode cL_law 986 = .ok (.invokevirtual 117, 3) := by decide +kernel
theorem dL_law_989 : decode cL_law 989 = .ok (.aload_n 2, 1) := by decide +kernel
theorem dL_law_990 : decode cL_law 990 = .ok (.aload_n 0, 1) := by decide +kernel
theorem dL_law_991 : decode cL_law 991 = .ok (.iload 4, 2) := by decide +kernel
theorem dL_law_993 : decode cL_law 993 = .ok (.iconst 1, 1) := by decide +kernel
theorem dL_law_994 : decode cL_law 994 = .ok (.iadd, 1) := by decide +kernel
theorem dL_law_995 : decode cL_law 995 = .ok (.iaload, 1) := by decide +kernel
theorem dL_law_996 : decode cL_law 996 = .ok (.invokevirtual 120, 3) := by decide +kernel
theorem dL_law_999 : decode cL_law 999 = .ok (.if_icmp .eq 655, 3) := by decide +kernel
theorem dL_law_1002 : decode cL_law 1002 = .ok (.iconst 0, 1) := by decide +kernel
theorem dL_law_1003 : decode cL_law 1003 = .ok (.ireturn, 1) := by decide +kernel
theorem dL_law_1004 : decode cL_law 1004 = .ok (.aload_n 1, 1) := by decide +kernel
theorem dL_law_1005 : decode cL_law 1005 = .ok (.aload_n 0, 1) := by decide +kernel
theorem dL_law_1006 : decode cL_law 1006 = .ok (.iload 4, 2) := by decide +kernel
theorem dL_law_1008 : decode cL_law 1008 = .ok (.iconst 1, 1) := by decide +kernel
theorem dL_law_1009 : decode cL_law 1009 = .ok (.iadd, 1) := by decide +kernel
theorem dL_law_1010 : decode cL_law 1010 = .ok (.iaload, 1) := by decide +kernel
theorem dL_law_1011 : decode cL_law 1011 = .ok (.invokevirtual 121, 3) := by decide +kernel
theorem dL_law_1014 : decode cL_law 1014 = .ok (.aload_n 2, 1) := by decide +kernel
theorem dL_law_1015 : decode cL_law 1015 = .ok (.aload_n 0, 1) := by decide +kernel
theorem dL_law_1016 : decode cL_law 1016 = .ok (.iload 4, 2) := by decide +kernel
theorem dL_law_1018 : decode cL_law 1018 = .ok (.iconst 1, 1) := by decide +kernel
theorem dL_law_1019 : decode cL_law 1019 = .ok (.iadd, 1) := by decide +kernel
theorem dL_law_1020 : decode cL_law 1020 = .ok (.iaload, 1) := by decide +kernel
theorem dL_law_1021 : decode cL_law 1021 = .ok (.invokevirtual 124, 3) := by decide +kernel
theorem dL_law_1024 : decode cL_law 1024 = .ok (.if_icmp .eq 630, 3) := by decide +kernel
theorem dL_law_1027 : decode cL_law 1027 = .ok (.iconst 0, 1) := by decide +kernel
theorem dL_law_1028 : decode cL_law 1028 = .ok (.ireturn, 1) := by decide +kernel
theorem dL_law_1029 : decode cL_law 1029 = .ok (.aload_n 1, 1) := by decide +kernel
theorem dL_law_1030 : decode cL_law 1030 = .ok (.aload_n 0, 1) := by decide +kernel
theorem dL_law_1031 : decode cL_law 1031 = .ok (.iload 4, 2) := by decide +kernel
theorem dL_law_1033 : decode cL_law 1033 = .ok (.iconst 1, 1) := by decide +kernel
theorem dL_law_1034 : decode cL_law 1034 = .ok (.iadd, 1) := by decide +kernel
theorem dL_law_1035 : decode cL_law 1035 = .ok (.iaload, 1) := by decide +kernel
theorem dL_law_1036 : decode cL_law 1036 = .ok (.aload_n 0, 1) := by decide +kernel
theorem dL_law_1037 : decode cL_law 1037 = .ok (.iload 4, 2) := by decide +kernel
theorem dL_law_1039 : decode cL_law 1039 = .ok (.iconst 2, 1) := by decide +kernel
theorem dL_law_1040 : decode cL_law 1040 = .ok (.iadd, 1) := by decide +kernel
theorem dL_law_1041 : decode cL_law 1041 = .ok (.iaload, 1) := by decide +kernel
theorem dL_law_1042 : decode cL_law 1042 = .ok (.invokevirtual 125, 3) := by decide +kernel
theorem dL_law_1045 : decode cL_law 1045 = .ok (.aload_n 2, 1) := by decide +kernel
theorem dL_law_1046 : decode cL_law 1046 = .ok (.aload_n 0, 1) := by decide +kernel
theorem dL_law_1047 : decode cL_law 1047 = .ok (.iload 4, 2) := by decide +kernel
theorem dL_law_1049 : decode cL_law 1049 = .ok (.iconst 1, 1) := by decide +kernel
theorem dL_law_1050 : decode cL_law 1050 = .ok (.iadd, 1) := by decide +kernel
theorem dL_law_1051 : decode cL_law 1051 = .ok (.iaload, 1) := by decide +kernel
theorem dL_law_1052 : decode cL_law 1052 = .ok (.aload_n 0, 1) := by decide +kernel
theorem dL_law_1053 : decode cL_law 1053 = .ok (.iload 4, 2) := by decide +kernel
theorem dL_law_1055 : decode cL_law 1055 = .ok (.iconst 2, 1) := by decide +kernel
theorem dL_law_1056 : decode cL_law 1056 = .ok (.iadd, 1) := by decide +kernel
theorem dL_law_1057 : decode cL_law 1057 = .ok (.iaload, 1) := by decide +kernel
theorem dL_law_1058 : decode cL_law 1058 = .ok (.invokevirtual 128, 3) := by decide +kernel
theorem dL_law_1061 : decode cL_law 1061 = .ok (.if_icmp .eq 593, 3) := by decide +kernel
theorem dL_law_1064 : decode cL_law 1064 = .ok (.iconst 0, 1) := by decide +kernel
theorem dL_law_1065 : decode cL_law 1065 = .ok (.ireturn, 1) := by decide +kernel
theorem dL_law_1066 : decode cL_law 1066 = .ok (.aload_n 1, 1) := by decide +kernel
theorem dL_law_1067 : decode cL_law 1067 = .ok (.aload_n 0, 1) := by decide +kernel
theorem dL_law_1068 : decode cL_law 1068 = .ok (.iload 4, 2) := by decide +kernel
theorem dL_law_1070 : decode cL_law 1070 = .ok (.iconst 1, 1) := by decide +kernel
theorem dL_law_1071 : decode cL_law 1071 = .ok (.iadd, 1) := by decide +kernel
theorem dL_law_1072 : decode cL_law 1072 = .ok (.iaload, 1) := by decide +kernel
theorem dL_law_1073 : decode cL_law 1073 = .ok (.aload_n 0, 1) := by decide +kernel
theorem dL_law_1074 : decode cL_law 1074 = .ok (.iload 4, 2) := by decide +kernel
theorem dL_law_1076 : decode cL_law 1076 = .ok (.iconst 2, 1) := by decide +kernel
theorem dL_law_1077 : decode cL_law 1077 = .ok (.iadd, 1) := by decide +kernel
theorem dL_law_1078 : decode cL_law 1078 = .ok (.iaload, 1) := by decide +kernel
theorem dL_law_1079 : decode cL_law 1079 = .ok (.aload_n 0, 1) := by decide +kernel
theorem dL_law_1080 : decode cL_law 1080 = .ok (.iload 4, 2) := by decide +kernel
theorem dL_law_1082 : decode cL_law 1082 = .ok (.iconst 3, 1) := by decide +kernel
theorem dL_law_1083 : decode cL_law 1083 = .ok (.iadd, 1) := by decide +kernel
theorem dL_law_1084 : decode cL_law 1084 = .ok (.iaload, 1) := by decide +kernel
theorem dL_law_1085 : decode cL_law 1085 = .ok (.invokevirtual 129, 3) := by decide +kernel
theorem dL_law_1088 : decode cL_law 1088 = .ok (.aload_n 2, 1) := by decide +kernel
theorem dL_law_1089 : decode cL_law 1089 = .ok (.aload_n 0, 1) := by decide +kernel
theorem dL_law_1090 : decode cL_law 1090 = .ok (.iload 4, 2) := by decide +kernel
theorem dL_law_1092 : decode cL_law 1092 = .ok (.iconst 1, 1) := by decide +kernel
theorem dL_law_1093 : decode cL_law 1093 = .ok (.iadd, 1) := by decide +kernel
theorem dL_law_1094 : decode cL_law 1094 = .ok (.iaload, 1) := by decide +kernel
theorem dL_law_1095 : decode cL_law 1095 = .ok (.aload_n 0, 1) := by decide +kernel
theorem dL_law_1096 : decode cL_law 1096 = .ok (.iload 4, 2) := by decide +kernel
theorem dL_law_1098 : decode cL_law 1098 = .ok (.iconst 2, 1) := by decide +kernel
theorem dL_law_1099 : decode cL_law 1099 = .ok (.iadd, 1) := by decide +kernel
theorem dL_law_1100 : decode cL_law 1100 = .ok (.iaload, 1) := by decide +kernel
theorem dL_law_1101 : decode cL_law 1101 = .ok (.aload_n 0, 1) := by decide +kernel
theorem dL_law_1102 : decode cL_law 1102 = .ok (.iload 4, 2) := by decide +kernel
theorem dL_law_1104 : decode cL_law 1104 = .ok (.iconst 3, 1) := by decide +kernel
theorem dL_law_1105 : decode cL_law 1105 = .ok (.iadd, 1) := by decide +kernel
theorem dL_law_1106 : decode cL_law 1106 = .ok (.iaload, 1) := by decide +kernel
theorem dL_law_1107 : decode cL_law 1107 = .ok (.invokevirtual 132, 3) := by decide +kernel
theorem dL_law_1110 : decode cL_law 1110 = .ok (.if_icmp .eq 544, 3) := by decide +kernel
theorem dL_law_1113 : decode cL_law 1113 = .ok (.iconst 0, 1) := by decide +kernel
theorem dL_law_1114 : decode cL_law 1114 = .ok (.ireturn, 1) := by decide +kernel
theorem dL_law_1115 : decode cL_law 1115 = .ok (.aload_n 1, 1) := by decide +kernel
theorem dL_law_1116 : decode cL_law 1116 = .ok (.aload_n 0, 1) := by decide +kernel
theorem dL_law_1117 : decode cL_law 1117 = .ok (.iload 4, 2) := by decide +kernel
theorem dL_law_1119 : decode cL_law 1119 = .ok (.iconst 1, 1) := by decide +kernel
theorem dL_law_1120 : decode cL_law 1120 = .ok (.iadd, 1) := by decide +kernel
theorem dL_law_1121 : decode cL_law 1121 = .ok (.iaload, 1) := by decide +kernel
theorem dL_law_1122 : decode cL_law 1122 = .ok (.invokevirtual 133, 3) := by decide +kernel
theorem dL_law_1125 : decode cL_law 1125 = .ok (.aload_n 2, 1) := by decide +kernel
theorem dL_law_1126 : decode cL_law 1126 = .ok (.aload_n 0, 1) := by decide +kernel
theorem dL_law_1127 : decode cL_law 1127 = .ok (.iload 4, 2) := by decide +kernel
theorem dL_law_1129 : decode cL_law 1129 = .ok (.iconst 1, 1) := by decide +kernel
theorem dL_law_1130 : decode cL_law 1130 = .ok (.iadd, 1) := by decide +kernel
theorem dL_law_1131 : decode cL_law 1131 = .ok (.iaload, 1) := by decide +kernel
theorem dL_law_1132 : decode cL_law 1132 = .ok (.invokevirtual 136, 3) := by decide +kernel
theorem dL_law_1135 : decode cL_law 1135 = .ok (.if_icmp .eq 519, 3) := by decide +kernel
theorem dL_law_1138 : decode cL_law 1138 = .ok (.iconst 0, 1) := by decide +kernel
theorem dL_law_1139 : decode cL_law 1139 = .ok (.ireturn, 1) := by decide +kernel
theorem dL_law_1140 : decode cL_law 1140 = .ok (.aload_n 1, 1) := by decide +kernel
theorem dL_law_1141 : decode cL_law 1141 = .ok (.aload_n 0, 1) := by decide +kernel
theorem dL_law_1142 : decode cL_law 1142 = .ok (.iload 4, 2) := by decide +kernel
theorem dL_law_1144 : decode cL_law 1144 = .ok (.iconst 1, 1) := by decide +kernel
theorem dL_law_1145 : decode cL_law 1145 = .ok (.iadd, 1) := by decide +kernel
theorem dL_law_1146 : decode cL_law 1146 = .ok (.iaload, 1) := by decide +kernel
theorem dL_law_1147 : decode cL_law 1147 = .ok (.aload_n 0, 1) := by decide +kernel
theorem dL_law_1148 : decode cL_law 1148 = .ok (.iload 4, 2) := by decide +kernel
theorem dL_law_1150 : decode cL_law 1150 = .ok (.iconst 2, 1) := by decide +kernel
theorem dL_law_1151 : decode cL_law 1151 = .ok (.iadd, 1) := by decide +kernel
theorem dL_law_1152 : decode cL_law 1152 = .ok (.iaload, 1) := by decide +kernel
theorem dL_law_1153 : decode cL_law 1153 = .ok (.invokevirtual 137, 3) := by decide +kernel
theorem dL_law_1156 : decode cL_law 1156 = .ok (.aload_n 2, 1) := by decide +kernel
theorem dL_law_1157 : decode cL_law 1157 = .ok (.aload_n 0, 1) := by decide +kernel
theorem dL_law_1158 : decode cL_law 1158 = .ok (.iload 4, 2) := by decide +kernel
theorem dL_law_1160 : decode cL_law 1160 = .ok (.iconst 1, 1) := by decide +kernel
theorem dL_law_1161 : decode cL_law 1161 = .ok (.iadd, 1) := by decide +kernel
theorem dL_law_1162 : decode cL_law 1162 = .ok (.iaload, 1) := by decide +kernel
theorem dL_law_1163 : decode cL_law 1163 = .ok (.aload_n 0, 1) := by decide +kernel
theorem dL_law_1164 : decode cL_law 1164 = .ok (.iload 4, 2) := by decide +kernel
theorem dL_law_1166 : decode cL_law 1166 = .ok (.iconst 2, 1) := by decide +kernel
theorem dL_law_1167 : decode cL_law 1167 = .ok (.iadd, 1) := by decide +kernel
theorem dL_law_1168 : decode cL_law 1168 = .ok (.iaload, 1) := by decide +kernel
theorem dL_law_1169 : decode cL_law 1169 = .ok (.invokevirtual 141, 3) := by decide +kernel
theorem dL_law_1172 : decode cL_law 1172 = .ok (.if_icmp .eq 482, 3) := by decide +kernel
theorem dL_law_1175 : decode cL_law 1175 = .ok (.iconst 0, 1) := by decide +kernel
theorem dL_law_1176 : decode cL_law 1176 = .ok (.ireturn, 1) := by decide +kernel
theorem dL_law_1177 : decode cL_law 1177 = .ok (.aload_n 1, 1) := by decide +kernel
theorem dL_law_1178 : decode cL_law 1178 = .ok (.aload_n 0, 1) := by decide +kernel
theorem dL_law_1179 : decode cL_law 1179 = .ok (.iload 4, 2) := by decide +kernel
theorem dL_law_1181 : decode cL_law 1181 = .ok (.iconst 1, 1) := by decide +kernel
theorem dL_law_1182 : decode cL_law 1182 = .ok (.iadd, 1) := by decide +kernel
theorem dL_law_1183 : decode cL_law 1183 = .ok (.iaload, 1) := by decide +kernel
theorem dL_law_1184 : decode cL_law 1184 = .ok (.aload_n 0, 1) := by decide +kernel
theorem dL_law_1185 : decode cL_law 1185 = .ok (.iload 4, 2) := by decide +kernel
theorem dL_law_1187 : decode cL_law 1187 = .ok (.iconst 2, 1) := by decide +kernel
theorem dL_law_1188 : decode cL_law 1188 = .ok (.iadd, 1) := by decide +kernel
theorem dL_law_1189 : decode cL_law 1189 = .ok (.iaload, 1) := by decide +kernel
theorem dL_law_1190 : decode cL_law 1190 = .ok (.invokevirtual 142, 3) := by decide +kernel
theorem dL_law_1193 : decode cL_law 1193 = .ok (.aload_n 2, 1) := by decide +kernel
theorem dL_law_1194 : decode cL_law 1194 = .ok (.aload_n 0, 1) := by decide +kernel
theorem dL_law_1195 : decode cL_law 1195 = .ok (.iload 4, 2) := by decide +kernel
theorem dL_law_1197 : decode cL_law 1197 = .ok (.iconst 1, 1) := by decide +kernel
theorem dL_law_1198 : decode cL_law 1198 = .ok (.iadd, 1) := by decide +kernel
theorem dL_law_1199 : decode cL_law 1199 = .ok (.iaload, 1) := by decide +kernel
theorem dL_law_1200 : decode cL_law 1200 = .ok (.aload_n 0, 1) := by decide +kernel
theorem dL_law_1201 : decode cL_law 1201 = .ok (.iload 4, 2) := by decide +kernel
theorem dL_law_1203 : decode cL_law 1203 = .ok (.iconst 2, 1) := by decide +kernel
theorem dL_law_1204 : decode cL_law 1204 = .ok (.iadd, 1) := by decide +kernel
theorem dL_law_1205 : decode cL_law 1205 = .ok (.iaload, 1) := by decide +kernel
theorem dL_law_1206 : decode cL_law 1206 = .ok (.invokevirtual 145, 3) := by decide +kernel
theorem dL_law_1209 : decode cL_law 1209 = .ok (.if_icmp .eq 445, 3) := by decide +kernel
theorem dL_law_1212 : decode cL_law 1212 = .ok (.iconst 0, 1) := by decide +kernel
theorem dL_law_1213 : decode cL_law 1213 = .ok (.ireturn, 1) := by decide +kernel
theorem dL_law_1214 : decode cL_law 1214 = .ok (.aload_n 1, 1) := by decide +kernel
theorem dL_law_1215 : decode cL_law 1215 = .ok (.aload_n 0, 1) := by decide +kernel
theorem dL_law_1216 : decode cL_law 1216 = .ok (.iload 4, 2) := by decide +kernel
theorem dL_law_1218 : decode cL_law 1218 = .ok (.iconst 1, 1) := by decide +kernel
theorem dL_law_1219 : decode cL_law 1219 = .ok (.iadd, 1) := by decide +kernel
theorem dL_law_1220 : decode cL_law 1220 = .ok (.iaload, 1) := by decide +kernel
theorem dL_law_1221 : decode cL_law 1221 = .ok (.aload_n 0, 1) := by decide +kernel
theorem dL_law_1222 : decode cL_law 1222 = .ok (.iload 4, 2) := by decide +kernel
theorem dL_law_1224 : decode cL_law 1224 = .ok (.iconst 2, 1) := by decide +kernel
theorem dL_law_1225 : decode cL_law 1225 = .ok (.iadd, 1) := by decide +kernel
theorem dL_law_1226 : decode cL_law 1226 = .ok (.iaload, 1) := by decide +kernel
theorem dL_law_1227 : decode cL_law 1227 = .ok (.aload_n 0, 1) := by decide +kernel
theorem dL_law_1228 : decode cL_law 1228 = .ok (.iload 4, 2) := by decide +kernel
theorem dL_law_1230 : decode cL_law 1230 = .ok (.iconst 3, 1) := by decide +kernel
theorem dL_law_1231 : decode cL_law 1231 = .ok (.iadd, 1) := by decide +kernel
theorem dL_law_1232 : decode cL_law 1232 = .ok (.iaload, 1) := by decide +kernel
theorem dL_law_1233 : decode cL_law 1233 = .ok (.invokevirtual 146, 3) := by decide +kernel
theorem dL_law_1236 : decode cL_law 1236 = .ok (.aload_n 2, 1) := by decide +kernel
theorem dL_law_1237 : decode cL_law 1237 = .ok (.aload_n 0, 1) := by decide +kernel
theorem dL_law_1238 : decode cL_law 1238 = .ok (.iload 4, 2) := by decide +kernel
theorem dL_law_1240 : decode cL_law 1240 = .ok (.iconst 1, 1) := by decide +kernel
theorem dL_law_1241 : decode cL_law 1241 = .ok (.iadd, 1) := by decide +kernel
theorem dL_law_1242 : decode cL_law 1242 = .ok (.iaload, 1) := by decide +kernel
theorem dL_law_1243 : decode cL_law 1243 = .ok (.aload_n 0, 1) := by decide +kernel
theorem dL_law_1244 : decode cL_law 1244 = .ok (.iload 4, 2) := by decide +kernel
theorem dL_law_1246 : decode cL_law 1246 = .ok (.iconst 2, 1) := by decide +kernel
theorem dL_law_1247 : decode cL_law 1247 = .ok (.iadd, 1) := by decide +kernel
theorem dL_law_1248 : decode cL_law 1248 = .ok (.iaload, 1) := by decide +kernel
theorem dL_law_1249 : decode cL_law 1249 = .ok (.aload_n 0, 1) := by decide +kernel
theorem dL_law_1250 : decode cL_law 1250 = .ok (.iload 4, 2) := by decide +kernel
theorem dL_law_1252 : decode cL_law 1252 = .ok (.iconst 3, 1) := by decide +kernel
theorem dL_law_1253 : decode cL_law 1253 = .ok (.iadd, 1) := by decide +kernel
theorem dL_law_1254 : decode cL_law 1254 = .ok (.iaload, 1) := by decide +kernel
theorem dL_law_1255 : decode cL_law 1255 = .ok (.invokevirtual 149, 3) := by decide +kernel
theorem dL_law_1258 : decode cL_law 1258 = .ok (.if_icmp .eq 396, 3) := by decide +kernel
theorem dL_law_1261 : decode cL_law 1261 = .ok (.iconst 0, 1) := by decide +kernel
theorem dL_law_1262 : decode cL_law 1262 = .ok (.ireturn, 1) := by decide +kernel
theorem dL_law_1263 : decode cL_law 1263 = .ok (.aload_n 1, 1) := by decide +kernel
theorem dL_law_1264 : decode cL_law 1264 = .ok (.invokevirtual 150, 3) := by decide +kernel
theorem dL_law_1267 : decode cL_law 1267 = .ok (.aload_n 2, 1) := by decide +kernel
theorem dL_law_1268 : decode cL_law 1268 = .ok (.invokevirtual 153, 3) := by decide +kernel
theorem dL_law_1271 : decode cL_law 1271 = .ok (.if_icmp .eq 383, 3) := by decide +kernel
theorem dL_law_1274 : decode cL_law 1274 = .ok (.iconst 0, 1) := by decide +kernel
theorem dL_law_1275 : decode cL_law 1275 = .ok (.ireturn, 1) := by decide +kernel
theorem dL_law_1276 : decode cL_law 1276 = .ok (.aload_n 1, 1) := by decide +kernel
theorem dL_law_1277 : decode cL_law 1277 = .ok (.aload_n 0, 1) := by decide +kernel
theorem dL_law_1278 : decode cL_law 1278 = .ok (.iload 4, 2) := by decide +kernel
theorem dL_law_1280 : decode cL_law 1280 = .ok (.iconst 1, 1) := by decide +kernel
theorem dL_law_1281 : decode cL_law 1281 = .ok (.iadd, 1) := by decide +kernel
theorem dL_law_1282 : decode cL_law 1282 = .ok (.iaload, 1) := by decide +kernel
theorem dL_law_1283 : decode cL_law 1283 = .ok (.i2l, 1) := by decide +kernel
theorem dL_law_1284 : decode cL_law 1284 = .ok (.bipush 32, 2) := by decide +kernel
theorem dL_law_1286 : decode cL_law 1286 = .ok (.lshl, 1) := by decide +kernel
theorem dL_law_1287 : decode cL_law 1287 = .ok (.aload_n 0, 1) := by decide +kernel
theorem dL_law_1288 : decode cL_law 1288 = .ok (.iload 4, 2) := by decide +kernel
theorem dL_law_1290 : decode cL_law 1290 = .ok (.iconst 2, 1) := by decide +kernel
theorem dL_law_1291 : decode cL_law 1291 = .ok (.iadd, 1) := by decide +kernel
theorem dL_law_1292 : decode cL_law 1292 = .ok (.iaload, 1) := by decide +kernel
theorem dL_law_1293 : decode cL_law 1293 = .ok (.i2l, 1) := by decide +kernel
theorem dL_law_1294 : decode cL_law 1294 = .ok (.ldc2_w 154, 3) := by decide +kernel
theorem dL_law_1297 : decode cL_law 1297 = .ok (.land, 1) := by decide +kernel
theorem dL_law_1298 : decode cL_law 1298 = .ok (.lor, 1) := by decide +kernel
theorem dL_law_1299 : decode cL_law 1299 = .ok (.invokevirtual 156, 3) := by decide +kernel
theorem dL_law_1302 : decode cL_law 1302 = .ok (.aload_n 2, 1) := by decide +kernel
theorem dL_law_1303 : decode cL_law 1303 = .ok (.aload_n 0, 1) := by decide +kernel
theorem dL_law_1304 : decode cL_law 1304 = .ok (.iload 4, 2) := by decide +kernel
theorem dL_law_1306 : decode cL_law 1306 = .ok (.iconst 1, 1) := by decide +kernel
theorem dL_law_1307 : decode cL_law 1307 = .ok (.iadd, 1) := by decide +kernel
theorem dL_law_1308 : decode cL_law 1308 = .ok (.iaload, 1) := by decide +kernel
theorem dL_law_1309 : decode cL_law 1309 = .ok (.i2l, 1) := by decide +kernel
theorem dL_law_1310 : decode cL_law 1310 = .ok (.bipush 32, 2) := by decide +kernel
theorem dL_law_1312 : decode cL_law 1312 = .ok (.lshl, 1) := by decide +kernel
theorem dL_law_1313 : decode cL_law 1313 = .ok (.aload_n 0, 1) := by decide +kernel
theorem dL_law_1314 : decode cL_law 1314 = .ok (.iload 4, 2) := by decide +kernel
theorem dL_law_1316 : decode cL_law 1316 = .ok (.iconst 2, 1) := by decide +kernel
theorem dL_law_1317 : decode cL_law 1317 = .ok (.iadd, 1) := by decide +kernel
theorem dL_law_1318 : decode cL_law 1318 = .ok (.iaload, 1) := by decide +kernel
theorem dL_law_1319 : decode cL_law 1319 = .ok (.i2l, 1) := by decide +kernel
theorem dL_law_1320 : decode cL_law 1320 = .ok (.ldc2_w 154, 3) := by decide +kernel
theorem dL_law_1323 : decode cL_law 1323 = .ok (.land, 1) := by decide +kernel
theorem dL_law_1324 : decode cL_law 1324 = .ok (.lor, 1) := by decide +kernel
theorem dL_law_1325 : decode cL_law 1325 = .ok (.invokevirtual 160, 3) := by decide +kernel
theorem dL_law_1328 : decode cL_law 1328 = .ok (.if_icmp .eq 326, 3) := by decide +kernel
theorem dL_law_1331 : decode cL_law 1331 = .ok (.iconst 0, 1) := by decide +kernel
theorem dL_law_1332 : decode cL_law 1332 = .ok (.ireturn, 1) := by decide +kernel
theorem dL_law_1333 : decode cL_law 1333 = .ok (.aload_n 1, 1) := by decide +kernel
theorem dL_law_1334 : decode cL_law 1334 = .ok (.aload_n 0, 1) := by decide +kernel
theorem dL_law_1335 : decode cL_law 1335 = .ok (.iload 4, 2) := by decide +kernel
theorem dL_law_1337 : decode cL_law 1337 = .ok (.iconst 1, 1) := by decide +kernel
theorem dL_law_1338 : decode cL_law 1338 = .ok (.iadd, 1) := by decide +kernel
theorem dL_law_1339 : decode cL_law 1339 = .ok (.iaload, 1) := by decide +kernel
theorem dL_law_1340 : decode cL_law 1340 = .ok (.aload_n 0, 1) := by decide +kernel
theorem dL_law_1341 : decode cL_law 1341 = .ok (.iload 4, 2) := by decide +kernel
theorem dL_law_1343 : decode cL_law 1343 = .ok (.iconst 2, 1) := by decide +kernel
theorem dL_law_1344 : decode cL_law 1344 = .ok (.iadd, 1) := by decide +kernel
theorem dL_law_1345 : decode cL_law 1345 = .ok (.iaload, 1) := by decide +kernel
theorem dL_law_1346 : decode cL_law 1346 = .ok (.aload_n 3, 1) := by decide +kernel
theorem dL_law_1347 : decode cL_law 1347 = .ok (.invokestatic 161, 3) := by decide +kernel
theorem dL_law_1350 : decode cL_law 1350 = .ok (.istore 5, 2) := by decide +kernel
theorem dL_law_1352 : decode cL_law 1352 = .ok (.aload_n 2, 1) := by decide +kernel
theorem dL_law_1353 : decode cL_law 1353 = .ok (.aload_n 0, 1) := by decide +kernel
theorem dL_law_1354 : decode cL_law 1354 = .ok (.iload 4, 2) := by decide +kernel
theorem dL_law_1356 : decode cL_law 1356 = .ok (.iconst 1, 1) := by decide +kernel
theorem dL_law_1357 : decode cL_law 1357 = .ok (.iadd, 1) := by decide +kernel
theorem dL_law_1358 : decode cL_law 1358 = .ok (.iaload, 1) := by decide +kernel
theorem dL_law_1359 : decode cL_law 1359 = .ok (.aload_n 0, 1) := by decide +kernel
theorem dL_law_1360 : decode cL_law 1360 = .ok (.iload 4, 2) := by decide +kernel
theorem dL_law_1362 : decode cL_law 1362 = .ok (.iconst 2, 1) := by decide +kernel
theorem dL_law_1363 : decode cL_law 1363 = .ok (.iadd, 1) := by decide +kernel
theorem dL_law_1364 : decode cL_law 1364 = .ok (.iaload, 1) := by decide +kernel
theorem dL_law_1365 : decode cL_law 1365 = .ok (.invokevirtual 164, 3) := by decide +kernel
theorem dL_law_1368 : decode cL_law 1368 = .ok (.istore 6, 2) := by decide +kernel
theorem dL_law_1370 : decode cL_law 1370 = .ok (.aload_n 2, 1) := by decide +kernel
theorem dL_law_1371 : decode cL_law 1371 = .ok (.invokevirtual 65, 3) := by decide +kernel
theorem dL_law_1374 : decode cL_law 1374 = .ok (.iload 5, 2) := by decide +kernel
theorem dL_law_1376 : decode cL_law 1376 = .ok (.if_icmp .eq 5, 3) := by decide +kernel
theorem dL_law_1379 : decode cL_law 1379 = .ok (.iconst 0, 1) := by decide +kernel
theorem dL_law_1380 : decode cL_law 1380 = .ok (.ireturn, 1) := by decide +kernel
theorem dL_law_1381 : decode cL_law 1381 = .ok (.iload 5, 2) := by decide +kernel
theorem dL_law_1383 : decode cL_law 1383 = .ok (.ifCond .ne 15, 3) := by decide +kernel
theorem dL_law_1386 : decode cL_law 1386 = .ok (.aload_n 3, 1) := by decide +kernel
theorem dL_law_1387 : decode cL_law 1387 = .ok (.iconst 0, 1) := by decide +kernel
theorem dL_law_1388 : decode cL_law 1388 = .ok (.laload, 1) := by decide +kernel
theorem dL_law_1389 : decode cL_law 1389 = .ok (.iload 6, 2) := by decide +kernel
theorem dL_law_1391 : decode cL_law 1391 = .ok (.i2l, 1) := by decide +kernel
theorem dL_law_1392 : decode cL_law 1392 = .ok (.lcmp, 1) := by decide +kernel
theorem dL_law_1393 : decode cL_law 1393 = .ok (.ifCond .eq 5, 3) := by decide +kernel
theorem dL_law_1396 : decode cL_law 1396 = .ok (.iconst 0, 1) := by decide +kernel
theorem dL_law_1397 : decode cL_law 1397 = .ok (.ireturn, 1) := by decide +kernel
theorem dL_law_1398 : decode cL_law 1398 = .ok (.goto 256, 3) := by decide +kernel
theorem dL_law_1401 : decode cL_law 1401 = .ok (.aload_n 1, 1) := by decide +kernel
theorem dL_law_1402 : decode cL_law 1402 = .ok (.aload_n 0, 1) := by decide +kernel
theorem dL_law_1403 : decode cL_law 1403 = .ok (.iload 4, 2) := by decide +kernel
theorem dL_law_1405 : decode cL_law 1405 = .ok (.iconst 1, 1) := by decide +kernel
theorem dL_law_1406 : decode cL_law 1406 = .ok (.iadd, 1) := by decide +kernel
theorem dL_law_1407 : decode cL_law 1407 = .ok (.iaload, 1) := by decide +kernel
theorem dL_law_1408 : decode cL_law 1408 = .ok (.aload_n 0, 1) := by decide +kernel
theorem dL_law_1409 : decode cL_law 1409 = .ok (.iload 4, 2) := by decide +kernel
theorem dL_law_1411 : decode cL_law 1411 = .ok (.iconst 2, 1) := by decide +kernel
theorem dL_law_1412 : decode cL_law 1412 = .ok (.iadd, 1) := by decide +kernel
theorem dL_law_1413 : decode cL_law 1413 = .ok (.iaload, 1) := by decide +kernel
theorem dL_law_1414 : decode cL_law 1414 = .ok (.aload_n 0, 1) := by decide +kernel
theorem dL_law_1415 : decode cL_law 1415 = .ok (.iload 4, 2) := by decide +kernel
theorem dL_law_1417 : decode cL_law 1417 = .ok (.iconst 3, 1) := by decide +kernel
theorem dL_law_1418 : decode cL_law 1418 = .ok (.iadd, 1) := by decide +kernel
theorem dL_law_1419 : decode cL_law 1419 = .ok (.iaload, 1) := by decide +kernel
theorem dL_law_1420 : decode cL_law 1420 = .ok (.aload_n 0, 1) := by decide +kernel
theorem dL_law_1421 : decode cL_law 1421 = .ok (.iload 4, 2) := by decide +kernel
theorem dL_law_1423 : decode cL_law 1423 = .ok (.iconst 4, 1) := by decide +kernel
theorem dL_law_1424 : decode cL_law 1424 = .ok (.iadd, 1) := by decide +kernel
theorem dL_law_1425 : decode cL_law 1425 = .ok (.iaload, 1) := by decide +kernel
theorem dL_law_1426 : decode cL_law 1426 = .ok (.aload_n 0, 1) := by decide +kernel
theorem dL_law_1427 : decode cL_law 1427 = .ok (.iload 4, 2) := by decide +kernel
theorem dL_law_1429 : decode cL_law 1429 = .ok (.iconst 5, 1) := by decide +kernel
theorem dL_law_1430 : decode cL_law 1430 = .ok (.iadd, 1) := by decide +kernel
theorem dL_law_1431 : decode cL_law 1431 = .ok (.iaload, 1) := by decide +kernel
theorem dL_law_1432 : decode cL_law 1432 = .ok (.aload_n 0, 1) := by decide +kernel
theorem dL_law_1433 : decode cL_law 1433 = .ok (.iload 4, 2) := by decide +kernel
theorem dL_law_1435 : decode cL_law 1435 = .ok (.bipush 6, 2) := by decide +kernel
theorem dL_law_1437 : decode cL_law 1437 = .ok (.iadd, 1) := by decide +kernel
theorem dL_law_1438 : decode cL_law 1438 = .ok (.iaload, 1) := by decide +kernel
theorem dL_law_1439 : decode cL_law 1439 = .ok (.aload_n 3, 1) := by decide +kernel
theorem dL_law_1440 : decode cL_law 1440 = .ok (.invokestatic 165, 3) := by decide +kernel
theorem dL_law_1443 : decode cL_law 1443 = .ok (.istore 5, 2) := by decide +kernel
theorem dL_law_1445 : decode cL_law 1445 = .ok (.aload_n 2, 1) := by decide +kernel
theorem dL_law_1446 : decode cL_law 1446 = .ok (.aload_n 0, 1) := by decide +kernel
theorem dL_law_1447 : decode cL_law 1447 = .ok (.iload 4, 2) := by decide +kernel
theorem dL_law_1449 : decode cL_law 1449 = .ok (.iconst 1, 1) := by decide +kernel
theorem dL_law_1450 : decode cL_law 1450 = .ok (.iadd, 1) := by decide +kernel
theorem dL_law_1451 : decode cL_law 1451 = .ok (.iaload, 1) := by decide +kernel
theorem dL_law_1452 : decode cL_law 1452 = .ok (.aload_n 0, 1) := by decide +kernel
theorem dL_law_1453 : decode cL_law 1453 = .ok (.iload 4, 2) := by decide +kernel
theorem dL_law_1455 : decode cL_law 1455 = .ok (.iconst 2, 1) := by decide +kernel
theorem dL_law_1456 : decode cL_law 1456 = .ok (.iadd, 1) := by decide +kernel
theorem dL_law_1457 : decode cL_law 1457 = .ok (.iaload, 1) := by decide +kernel
theorem dL_law_1458 : decode cL_law 1458 = .ok (.aload_n 0, 1) := by decide +kernel
theorem dL_law_1459 : decode cL_law 1459 = .ok (.iload 4, 2) := by decide +kernel
theorem dL_law_1461 : decode cL_law 1461 = .ok (.iconst 3, 1) := by decide +kernel
theorem dL_law_1462 : decode cL_law 1462 = .ok (.iadd, 1) := by decide +kernel
theorem dL_law_1463 : decode cL_law 1463 = .ok (.iaload, 1) := by decide +kernel
theorem dL_law_1464 : decode cL_law 1464 = .ok (.aload_n 0, 1) := by decide +kernel
theorem dL_law_1465 : decode cL_law 1465 = .ok (.iload 4, 2) := by decide +kernel
theorem dL_law_1467 : decode cL_law 1467 = .ok (.iconst 4, 1) := by decide +kernel
theorem dL_law_1468 : decode cL_law 1468 = .ok (.iadd, 1) := by decide +kernel
theorem dL_law_1469 : decode cL_law 1469 = .ok (.iaload, 1) := by decide +kernel
theorem dL_law_1470 : decode cL_law 1470 = .ok (.aload_n 0, 1) := by decide +kernel
theorem dL_law_1471 : decode cL_law 1471 = .ok (.iload 4, 2) := by decide +kernel
theorem dL_law_1473 : decode cL_law 1473 = .ok (.iconst 5, 1) := by decide +kernel
theorem dL_law_1474 : decode cL_law 1474 = .ok (.iadd, 1) := by decide +kernel
theorem dL_law_1475 : decode cL_law 1475 = .ok (.iaload, 1) := by decide +kernel
theorem dL_law_1476 : decode cL_law 1476 = .ok (.aload_n 0, 1) := by decide +kernel
theorem dL_law_1477 : decode cL_law 1477 = .ok (.iload 4, 2) := by decide +kernel
theorem dL_law_1479 : decode cL_law 1479 = .ok (.bipush 6, 2) := by decide +kernel
theorem dL_law_1481 : decode cL_law 1481 = .ok (.iadd, 1) := by decide +kernel
theorem dL_law_1482 : decode cL_law 1482 = .ok (.iaload, 1) := by decide +kernel
theorem dL_law_1483 : decode cL_law 1483 = .ok (.invokevirtual 168, 3) := by decide +kernel
theorem dL_law_1486 : decode cL_law 1486 = .ok (.istore 6, 2) := by decide +kernel
theorem dL_law_1488 : decode cL_law 1488 = .ok (.aload_n 2, 1) := by decide +kernel
theorem dL_law_1489 : decode cL_law 1489 = .ok (.invokevirtual 65, 3) := by decide +kernel
theorem dL_law_1492 : decode cL_law 1492 = .ok (.iload 5, 2) := by decide +kernel
theorem dL_law_1494 : decode cL_law 1494 = .ok (.if_icmp .eq 5, 3) := by decide +kernel
theorem dL_law_1497 : decode cL_law 1497 = .ok (.iconst 0, 1) := by decide +kernel
theorem dL_law_1498 : decode cL_law 1498 = .ok (.ireturn, 1) := by decide +kernel
theorem dL_law_1499 : decode cL_law 1499 = .ok (.iload 5, 2) := by decide +kernel
theorem dL_law_1501 : decode cL_law 1501 = .ok (.ifCond .ne 15, 3) := by decide +kernel
theorem dL_law_1504 : decode cL_law 1504 = .ok (.aload_n 3, 1) := by decide +kernel
theorem dL_law_1505 : decode cL_law 1505 = .ok (.iconst 0, 1) := by decide +kernel
theorem dL_law_1506 : decode cL_law 1506 = .ok (.laload, 1) := by decide +kernel
theorem dL_law_1507 : decode cL_law 1507 = .ok (.iload 6, 2) := by decide +kernel
theorem dL_law_1509 : decode cL_law 1509 = .ok (.i2l, 1) := by decide +kernel
theorem dL_law_1510 : decode cL_law 1510 = .ok (.lcmp, 1) := by decide +kernel
theorem dL_law_1511 : decode cL_law 1511 = .ok (.ifCond .eq 5, 3) := by decide +kernel
theorem dL_law_1514 : decode cL_law 1514 = .ok (.iconst 0, 1) := by decide +kernel
theorem dL_law_1515 : decode cL_law 1515 = .ok (.ireturn, 1) := by decide +kernel
theorem dL_law_1516 : decode cL_law 1516 = .ok (.goto 138, 3) := by decide +kernel
theorem dL_law_1519 : decode cL_law 1519 = .ok (.aload_n 1, 1) := by decide +kernel
theorem dL_law_1520 : decode cL_law 1520 = .ok (.aload_n 0, 1) := by decide +kernel
theorem dL_law_1521 : decode cL_law 1521 = .ok (.iload 4, 2) := by decide +kernel
theorem dL_law_1523 : decode cL_law 1523 = .ok (.iconst 1, 1) := by decide +kernel
theorem dL_law_1524 : decode cL_law 1524 = .ok (.iadd, 1) := by decide +kernel
theorem dL_law_1525 : decode cL_law 1525 = .ok (.iaload, 1) := by decide +kernel
theorem dL_law_1526 : decode cL_law 1526 = .ok (.aload_n 0, 1) := by decide +kernel
theorem dL_law_1527 : decode cL_law 1527 = .ok (.iload 4, 2) := by decide +kernel
theorem dL_law_1529 : decode cL_law 1529 = .ok (.iconst 2, 1) := by decide +kernel
theorem dL_law_1530 : decode cL_law 1530 = .ok (.iadd, 1) := by decide +kernel
theorem dL_law_1531 : decode cL_law 1531 = .ok (.iaload, 1) := by decide +kernel
theorem dL_law_1532 : decode cL_law 1532 = .ok (.aload_n 0, 1) := by decide +kernel
theorem dL_law_1533 : decode cL_law 1533 = .ok (.iload 4, 2) := by decide +kernel
theorem dL_law_1535 : decode cL_law 1535 = .ok (.iconst 3, 1) := by decide +kernel
theorem dL_law_1536 : decode cL_law 1536 = .ok (.iadd, 1) := by decide +kernel
theorem dL_law_1537 : decode cL_law 1537 = .ok (.iaload, 1) := by decide +kernel
theorem dL_law_1538 : decode cL_law 1538 = .ok (.aload_n 0, 1) := by decide +kernel
theorem dL_law_1539 : decode cL_law 1539 = .ok (.iload 4, 2) := by decide +kernel
theorem dL_law_1541 : decode cL_law 1541 = .ok (.iconst 4, 1) := by decide +kernel
theorem dL_law_1542 : decode cL_law 1542 = .ok (.iadd, 1) := by decide +kernel
theorem dL_law_1543 : decode cL_law 1543 = .ok (.iaload, 1) := by decide +kernel
theorem dL_law_1544 : decode cL_law 1544 = .ok (.invokevirtual 169, 3) := by decide +kernel
theorem dL_law_1547 : decode cL_law 1547 = .ok (.aload_n 2, 1) := by decide +kernel
theorem dL_law_1548 : decode cL_law 1548 = .ok (.aload_n 0, 1) := by decide +kernel
theorem dL_law_1549 : decode cL_law 1549 = .ok (.iload 4, 2) := by decide +kernel
theorem dL_law_1551 : decode cL_law 1551 = .ok (.iconst 1, 1) := by decide +kernel
theorem dL_law_1552 : decode cL_law 1552 = .ok (.iadd, 1) := by decide +kernel
theorem dL_law_1553 : decode cL_law 1553 = .ok (.iaload, 1) := by decide +kernel
theorem dL_law_1554 : decode cL_law 1554 = .ok (.aload_n 0, 1) := by decide +kernel
theorem dL_law_1555 : decode cL_law 1555 = .ok (.iload 4, 2) := by decide +kernel
theorem dL_law_1557 : decode cL_law 1557 = .ok (.iconst 2, 1) := by decide +kernel
theorem dL_law_1558 : decode cL_law 1558 = .ok (.iadd, 1) := by decide +kernel
theorem dL_law_1559 : decode cL_law 1559 = .ok (.iaload, 1) := by decide +kernel
theorem dL_law_1560 : decode cL_law 1560 = .ok (.aload_n 0, 1) := by decide +kernel
theorem dL_law_1561 : decode cL_law 1561 = .ok (.iload 4, 2) := by decide +kernel
theorem dL_law_1563 : decode cL_law 1563 = .ok (.iconst 3, 1) := by decide +kernel
theorem dL_law_1564 : decode cL_law 1564 = .ok (.iadd, 1) := by decide +kernel
theorem dL_law_1565 : decode cL_law 1565 = .ok (.iaload, 1) := by decide +kernel
theorem dL_law_1566 : decode cL_law 1566 = .ok (.aload_n 0, 1) := by decide +kernel
theorem dL_law_1567 : decode cL_law 1567 = .ok (.iload 4, 2) := by decide +kernel
theorem dL_law_1569 : decode cL_law 1569 = .ok (.iconst 4, 1) := by decide +kernel
theorem dL_law_1570 : decode cL_law 1570 = .ok (.iadd, 1) := by decide +kernel
theorem dL_law_1571 : decode cL_law 1571 = .ok (.iaload, 1) := by decide +kernel
theorem dL_law_1572 : decode cL_law 1572 = .ok (.invokevirtual 172, 3) := by decide +kernel
theorem dL_law_1575 : decode cL_law 1575 = .ok (.if_icmp .eq 79, 3) := by decide +kernel
theorem dL_law_1578 : decode cL_law 1578 = .ok (.iconst 0, 1) := by decide +kernel
theorem dL_law_1579 : decode cL_law 1579 = .ok (.ireturn, 1) := by decide +kernel
theorem dL_law_1580 : decode cL_law 1580 = .ok (.aload_n 1, 1) := by decide +kernel
theorem dL_law_1581 : decode cL_law 1581 = .ok (.aload_n 0, 1) := by decide +kernel
theorem dL_law_1582 : decode cL_law 1582 = .ok (.iload 4, 2) := by decide +kernel
theorem dL_law_1584 : decode cL_law 1584 = .ok (.iconst 1, 1) := by decide +kernel
theorem dL_law_1585 : decode cL_law 1585 = .ok (.iadd, 1) := by decide +kernel
theorem dL_law_1586 : decode cL_law 1586 = .ok (.iaload, 1) := by decide +kernel
theorem dL_law_1587 : decode cL_law 1587 = .ok (.aload_n 0, 1) := by decide +kernel
theorem dL_law_1588 : decode cL_law 1588 = .ok (.iload 4, 2) := by decide +kernel
theorem dL_law_1590 : decode cL_law 1590 = .ok (.iconst 2, 1) := by decide +kernel
theorem dL_law_1591 : decode cL_law 1591 = .ok (.iadd, 1) := by decide +kernel
theorem dL_law_1592 : decode cL_law 1592 = .ok (.iaload, 1) := by decide +kernel
theorem dL_law_1593 : decode cL_law 1593 = .ok (.aload_n 0, 1) := by decide +kernel
theorem dL_law_1594 : decode cL_law 1594 = .ok (.iload 4, 2) := by decide +kernel
theorem dL_law_1596 : decode cL_law 1596 = .ok (.iconst 3, 1) := by decide +kernel
theorem dL_law_1597 : decode cL_law 1597 = .ok (.iadd, 1) := by decide +kernel
theorem dL_law_1598 : decode cL_law 1598 = .ok (.iaload, 1) := by decide +kernel
theorem dL_law_1599 : decode cL_law 1599 = .ok (.invokevirtual 173, 3) := by decide +kernel
theorem dL_law_1602 : decode cL_law 1602 = .ok (.aload_n 2, 1) := by decide +kernel
theorem dL_law_1603 : decode cL_law 1603 = .ok (.aload_n 0, 1) := by decide +kernel
theorem dL_law_1604 : decode cL_law 1604 = .ok (.iload 4, 2) := by decide +kernel
theorem dL_law_1606 : decode cL_law 1606 = .ok (.iconst 1, 1) := by decide +kernel
theorem dL_law_1607 : decode cL_law 1607 = .ok (.iadd, 1) := by decide +kernel
theorem dL_law_1608 : decode cL_law 1608 = .ok (.iaload, 1) := by decide +kernel
theorem dL_law_1609 : decode cL_law 1609 = .ok (.aload_n 0, 1) := by decide +kernel
theorem dL_law_1610 : decode cL_law 1610 = .ok (.iload 4, 2) := by decide +kernel
theorem dL_law_1612 : decode cL_law 1612 = .ok (.iconst 2, 1) := by decide +kernel
theorem dL_law_1613 : decode cL_law 1613 = .ok (.iadd, 1) := by decide +kernel
theorem dL_law_1614 : decode cL_law 1614 = .ok (.iaload, 1) := by decide +kernel
theorem dL_law_1615 : decode cL_law 1615 = .ok (.aload_n 0, 1) := by decide +kernel
theorem dL_law_1616 : decode cL_law 1616 = .ok (.iload 4, 2) := by decide +kernel
theorem dL_law_1618 : decode cL_law 1618 = .ok (.iconst 3, 1) := by decide +kernel
theorem dL_law_1619 : decode cL_law 1619 = .ok (.iadd, 1) := by decide +kernel
theorem dL_law_1620 : decode cL_law 1620 = .ok (.iaload, 1) := by decide +kernel
theorem dL_law_1621 : decode cL_law 1621 = .ok (.invokevirtual 176, 3) := by decide +kernel
theorem dL_law_1624 : decode cL_law 1624 = .ok (.if_icmp .eq 30, 3) := by decide +kernel
theorem dL_law_1627 : decode cL_law 1627 = .ok (.iconst 0, 1) := by decide +kernel
theorem dL_law_1628 : decode cL_law 1628 = .ok (.ireturn, 1) := by decide +kernel
theorem dL_law_1629 : decode cL_law 1629 = .ok (.aload_n 1, 1) := by decide +kernel
theorem dL_law_1630 : decode cL_law 1630 = .ok (.aload_n 0, 1) := by decide +kernel
theorem dL_law_1631 : decode cL_law 1631 = .ok (.iload 4, 2) := by decide +kernel
theorem dL_law_1633 : decode cL_law 1633 = .ok (.iconst 1, 1) := by decide +kernel
theorem dL_law_1634 : decode cL_law 1634 = .ok (.iadd, 1) := by decide +kernel
theorem dL_law_1635 : decode cL_law 1635 = .ok (.iaload, 1) := by decide +kernel
theorem dL_law_1636 : decode cL_law 1636 = .ok (.invokevirtual 177, 3) := by decide +kernel
theorem dL_law_1639 : decode cL_law 1639 = .ok (.aload_n 2, 1) := by decide +kernel
theorem dL_law_1640 : decode cL_law 1640 = .ok (.aload_n 0, 1) := by decide +kernel
theorem dL_law_1641 : decode cL_law 1641 = .ok (.iload 4, 2) := by decide +kernel
theorem dL_law_1643 : decode cL_law 1643 = .ok (.iconst 1, 1) := by decide +kernel
theorem dL_law_1644 : decode cL_law 1644 = .ok (.iadd, 1) := by decide +kernel
theorem dL_law_1645 : decode cL_law 1645 = .ok (.iaload, 1) := by decide +kernel
theorem dL_law_1646 : decode cL_law 1646 = .ok (.invokevirtual 180, 3) := by decide +kernel
theorem dL_law_1649 : decode cL_law 1649 = .ok (.if_icmp .eq 5, 3) := by decide +kernel
theorem dL_law_1652 : decode cL_law 1652 = .ok (.iconst 0, 1) := by decide +kernel
theorem dL_law_1653 : decode cL_law 1653 = .ok (.ireturn, 1) := by decide +kernel
theorem dL_law_1654 : decode cL_law 1654 = .ok (.iinc 4 7, 3) := by decide +kernel
theorem dL_law_1657 : decode cL_law 1657 = .ok (.goto (-1634), 3) := by decide +kernel
theorem dL_law_1660 : decode cL_law 1660 = .ok (.iconst 1, 1) := by decide +kernel
theorem dL_law_1661 : decode cL_law 1661 = .ok (.ireturn, 1) := by decide +kernel
