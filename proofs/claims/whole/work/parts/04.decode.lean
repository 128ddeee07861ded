theorem dX5_setRows_11 : decode cX5_setRows 11 = .ok (.ireturn, 1) := by decide +kernel
theorem dX5_setRows_12 : decode cX5_setRows 12 = .ok (.aload_n 0, 1) := by decide +kernel
theorem dX5_setRows_13 : decode cX5_setRows 13 = .ok (.invokevirtual 53, 3) := by decide +kernel
theorem dX5_setRows_16 : decode cX5_setRows 16 = .ok (.aload_n 0, 1) := by decide +kernel
theorem dX5_setRows_17 : decode cX5_setRows 17 = .ok (.getfield 7, 3) := by decide +kernel
theorem dX5_setRows_20 : decode cX5_setRows 20 = .ok (.iconst 3, 1) := by decide +kernel
theorem dX5_setRows_21 : decode cX5_setRows 21 = .ok (.iaload, 1) := by decide +kernel
theorem dX5_setRows_22 : decode cX5_setRows 22 = .ok (.istore_n 2, 1) := by decide +kernel
theorem dX5_setRows_23 : decode cX5_setRows 23 = .ok (.aload_n 0, 1) := by decide +kernel
theorem dX5_setRows_24 : decode cX5_setRows 24 = .ok (.getfield 7, 3) := by decide +kernel
theorem dX5_setRows_27 : decode cX5_setRows 27 = .ok (.iconst 3, 1) := by decide +kernel
theorem dX5_setRows_28 : decode cX5_setRows 28 = .ok (.iload_n 1, 1) := by decide +kernel
theorem dX5_setRows_29 : decode cX5_setRows 29 = .ok (.iastore, 1) := by decide +kernel
theorem dX5_setRows_30 : decode cX5_setRows 30 = .ok (.iload_n 2, 1) := by decide +kernel
theorem dX5_setRows_31 : decode cX5_setRows 31 = .ok (.ireturn, 1) := by decide +kernel
theorem dX5_weekAt_0 : decode cX5_weekAt 0 = .ok (.iconst 0, 1) := by decide +kernel
theorem dX5_weekAt_1 : decode cX5_weekAt 1 = .ok (.istore_n 2, 1) := by decide +kernel
theorem dX5_weekAt_2 : decode cX5_weekAt 2 = .ok (.iload_n 1, 1) := by decide +kernel
theorem dX5_weekAt_3 : decode cX5_weekAt 3 = .ok (.aload_n 0, 1) := by decide +kernel
theorem dX5_weekAt_4 : decode cX5_weekAt 4 = .ok (.getfield 22, 3) := by decide +kernel
theorem dX5_weekAt_7 : decode cX5_weekAt 7 = .ok (.iload_n 2, 1) := by decide +kernel
theorem dX5_weekAt_8 : decode cX5_weekAt 8 = .ok (.iconst 1, 1) := by decide +kernel
theorem dX5_weekAt_9 : decode cX5_weekAt 9 = .ok (.iadd, 1) := by decide +kernel
theorem dX5_weekAt_10 : decode cX5_weekAt 10 = .ok (.iaload, 1) := by decide +kernel
theorem dX5_weekAt_11 : decode cX5_weekAt 11 = .ok (.if_icmp .lt 9, 3) := by decide +kernel
theorem dX5_weekAt_14 : decode cX5_weekAt 14 = .ok (.iinc 2 1, 3) := by decide +kernel
theorem dX5_weekAt_17 : decode cX5_weekAt 17 = .ok (.goto (-15), 3) := by decide +kernel
theorem dX5_weekAt_20 : decode cX5_weekAt 20 = .ok (.iload_n 2, 1) := by decide +kernel
theorem dX5_weekAt_21 : decode cX5_weekAt 21 = .ok (.ireturn, 1) := by decide +kernel
theorem dX5_isIn_0 : decode cX5_isIn 0 = .ok (.aload_n 0, 1) := by decide +kernel
theorem dX5_isIn_1 : decode cX5_isIn 1 = .ok (.iload_n 1, 1) := by decide +kernel
theorem dX5_isIn_2 : decode cX5_isIn 2 = .ok (.invokevirtual 40, 3) := by decide +kernel
theorem dX5_isIn_5 : decode cX5_isIn 5 = .ok (.aload_n 0, 1) := by decide +kernel
theorem dX5_isIn_6 : decode cX5_isIn 6 = .ok (.getfield 22, 3) := by decide +kernel
theorem dX5_isIn_9 : decode cX5_isIn 9 = .ok (.iload_n 2, 1) := by decide +kernel
theorem dX5_isIn_10 : decode cX5_isIn 10 = .ok (.iconst 1, 1) := by decide +kernel
theorem dX5_isIn_11 : decode cX5_isIn 11 = .ok (.iadd, 1) := by decide +kernel
theorem dX5_isIn_12 : decode cX5_isIn 12 = .ok (.iaload, 1) := by decide +kernel
theorem dX5_isIn_13 : decode cX5_isIn 13 = .ok (.if_icmp .ge 21, 3) := by decide +kernel
theorem dX5_isIn_16 : decode cX5_isIn 16 = .ok (.aload_n 0, 1) := by decide +kernel
theorem dX5_isIn_17 : decode cX5_isIn 17 = .ok (.iload_n 1, 1) := by decide +kernel
theorem dX5_isIn_18 : decode cX5_isIn 18 = .ok (.invokevirtual 36, 3) := by decide +kernel
theorem dX5_isIn_21 : decode cX5_isIn 21 = .ok (.aload_n 0, 1) := by decide +kernel
theorem dX5_isIn_22 : decode cX5_isIn 22 = .ok (.getfield 22, 3) := by decide +kernel
theorem dX5_isIn_25 : decode cX5_isIn 25 = .ok (.iload_n 2, 1) := by decide +kernel
theorem dX5_isIn_26 : decode cX5_isIn 26 = .ok (.iaload, 1) := by decide +kernel
theorem dX5_isIn_27 : decode cX5_isIn 27 = .ok (.if_icmp .lt 7, 3) := by decide +kernel
theorem dX5_isIn_30 : decode cX5_isIn 30 = .ok (.iconst 1, 1) := by decide +kernel
theorem dX5_isIn_31 : decode cX5_isIn 31 = .ok (.goto 4, 3) := by decide +kernel
theorem dX5_isIn_34 : decode cX5_isIn 34 = .ok (.iconst 0, 1) := by decide +kernel
theorem dX5_isIn_35 : decode cX5_isIn 35 = .ok (.ireturn, 1) := by decide +kernel
theorem dX5_beganBefore_0 : decode cX5_beganBefore 0 = .ok (.aload_n 0, 1) := by decide +kernel
theorem dX5_beganBefore_1 : decode cX5_beganBefore 1 = .ok (.iload_n 1, 1) := by decide +kernel
theorem dX5_beganBefore_2 : decode cX5_beganBefore 2 = .ok (.invokevirtual 40, 3) := by decide +kernel
theorem dX5_beganBefore_5 : decode cX5_beganBefore 5 = .ok (.aload_n 0, 1) := by decide +kernel
theorem dX5_beganBefore_6 : decode cX5_beganBefore 6 = .ok (.getfield 22, 3) := by decide +kernel
theorem dX5_beganBefore_9 : decode cX5_beganBefore 9 = .ok (.iload_n 2, 1) := by decide +kernel
theorem dX5_beganBefore_10 : decode cX5_beganBefore 10 = .ok (.iaload, 1) := by decide +kernel
theorem dX5_beganBefore_11 : decode cX5_beganBefore 11 = .ok (.if_icmp .ge 7, 3) := by decide +kernel
theorem dX5_beganBefore_14 : decode cX5_beganBefore 14 = .ok (.iconst 1, 1) := by decide +kernel
theorem dX5_beganBefore_15 : decode cX5_beganBefore 15 = .ok (.goto 4, 3) := by decide +kernel
theorem dX5_beganBefore_18 : decode cX5_beganBefore 18 = .ok (.iconst 0, 1) := by decide +kernel
theorem dX5_beganBefore_19 : decode cX5_beganBefore 19 = .ok (.ireturn, 1) := by decide +kernel
theorem dX5_isAhead_0 : decode cX5_isAhead 0 = .ok (.aload_n 0, 1) := by decide +kernel
theorem dX5_isAhead_1 : decode cX5_isAhead 1 = .ok (.iload_n 1, 1) := by decide +kernel
theorem dX5_isAhead_2 : decode cX5_isAhead 2 = .ok (.iload_n 3, 1) := by decide +kernel
theorem dX5_isAhead_3 : decode cX5_isAhead 3 = .ok (.invokevirtual 60, 3) := by decide +kernel
theorem dX5_isAhead_6 : decode cX5_isAhead 6 = .ok (.aload_n 0, 1) := by decide +kernel
theorem dX5_isAhead_7 : decode cX5_isAhead 7 = .ok (.iload_n 2, 1) := by decide +kernel
theorem dX5_isAhead_8 : decode cX5_isAhead 8 = .ok (.iload_n 3, 1) := by decide +kernel
theorem dX5_isAhead_9 : decode cX5_isAhead 9 = .ok (.invokevirtual 60, 3) := by decide +kernel
theorem dX5_isAhead_12 : decode cX5_isAhead 12 = .ok (.if_icmp .eq 10, 3) := by decide +kernel
theorem dX5_isAhead_15 : decode cX5_isAhead 15 = .ok (.aload_n 0, 1) := by decide +kernel
theorem dX5_isAhead_16 : decode cX5_isAhead 16 = .ok (.iload_n 1, 1) := by decide +kernel
theorem dX5_isAhead_17 : decode cX5_isAhead 17 = .ok (.iload_n 3, 1) := by decide +kernel
theorem dX5_isAhead_18 : decode cX5_isAhead 18 = .ok (.invokevirtual 60, 3) := by decide +kernel
theorem dX5_isAhead_21 : decode cX5_isAhead 21 = .ok (.ireturn, 1) := by decide +kernel
theorem dX5_isAhead_22 : decode cX5_isAhead 22 = .ok (.aload_n 0, 1) := by decide +kernel
theorem dX5_isAhead_23 : decode cX5_isAhead 23 = .ok (.iload_n 1, 1) := by decide +kernel
theorem dX5_isAhead_24 : decode cX5_isAhead 24 = .ok (.iload_n 3, 1) := by decide +kernel
theorem dX5_isAhead_25 : decode cX5_isAhead 25 = .ok (.invokevirtual 60, 3) := by decide +kernel
theorem dX5_isAhead_28 : decode cX5_isAhead 28 = .ok (.ifCond .eq 55, 3) := by decide +kernel
theorem dX5_isAhead_31 : decode cX5_isAhead 31 = .ok (.iload_n 3, 1) := by decide +kernel
theorem dX5_isAhead_32 : decode cX5_isAhead 32 = .ok (.ifCond .ne 16, 3) := by decide +kernel
theorem dX5_isAhead_35 : decode cX5_isAhead 35 = .ok (.iload_n 1, 1) := by decide +kernel
theorem dX5_isAhead_36 : decode cX5_isAhead 36 = .ok (.iload_n 2, 1) := by decide +kernel
theorem dX5_isAhead_37 : decode cX5_isAhead 37 = .ok (.if_icmp .ge 7, 3) := by decide +kernel
theorem dX5_isAhead_40 : decode cX5_isAhead 40 = .ok (.iconst 1, 1) := by decide +kernel
theorem dX5_isAhead_41 : decode cX5_isAhead 41 = .ok (.goto 41, 3) := by decide +kernel
theorem dX5_isAhead_44 : decode cX5_isAhead 44 = .ok (.iconst 0, 1) := by decide +kernel
theorem dX5_isAhead_45 : decode cX5_isAhead 45 = .ok (.goto 37, 3) := by decide +kernel
theorem dX5_isAhead_48 : decode cX5_isAhead 48 = .ok (.aload_n 0, 1) := by decide +kernel
theorem dX5_isAhead_49 : decode cX5_isAhead 49 = .ok (.getfield 16, 3) := by decide +kernel
theorem dX5_isAhead_52 : decode cX5_isAhead 52 = .ok (.bipush 7, 2) := by decide +kernel
theorem dX5_isAhead_54 : decode cX5_isAhead 54 = .ok (.iload_n 1, 1) := by decide +kernel
theorem dX5_isAhead_55 : decode cX5_isAhead 55 = .ok (.imul, 1) := by decide +kernel
theorem dX5_isAhead_56 : decode cX5_isAhead 56 = .ok (.iload_n 3, 1) := by decide +kernel
theorem dX5_isAhead_57 : decode cX5_isAhead 57 = .ok (.iadd, 1) := by decide +kernel
theorem dX5_isAhead_58 : decode cX5_isAhead 58 = .ok (.iconst 1, 1) := by decide +kernel
theorem dX5_isAhead_59 : decode cX5_isAhead 59 = .ok (.isub, 1) := by decide +kernel
theorem dX5_isAhead_60 : decode cX5_isAhead 60 = .ok (.iaload, 1) := by decide +kernel
theorem dX5_isAhead_61 : decode cX5_isAhead 61 = .ok (.aload_n 0, 1) := by decide +kernel
theorem dX5_isAhead_62 : decode cX5_isAhead 62 = .ok (.getfield 16, 3) := by decide +kernel
theorem dX5_isAhead_65 : decode cX5_isAhead 65 = .ok (.bipush 7, 2) := by decide +kernel
theorem dX5_isAhead_67 : decode cX5_isAhead 67 = .ok (.iload_n 2, 1) := by decide +kernel
theorem dX5_isAhead_68 : decode cX5_isAhead 68 = .ok (.imul, 1) := by decide +kernel
theorem dX5_isAhead_69 : decode cX5_isAhead 69 = .ok (.iload_n 3, 1) := by decide +kernel
theorem dX5_isAhead_70 : decode cX5_isAhead 70 = .ok (.iadd, 1) := by decide +kernel
theorem dX5_isAhead_71 : decode cX5_isAhead 71 = .ok (.iconst 1, 1) := by decide +kernel
theorem dX5_isAhead_72 : decode cX5_isAhead 72 = .ok (.isub, 1) := by decide +kernel
theorem dX5_isAhead_73 : decode cX5_isAhead 73 = .ok (.iaload, 1) := by decide +kernel
theorem dX5_isAhead_74 : decode cX5_isAhead 74 = .ok (.if_icmp .ge 7, 3) := by decide +kernel
theorem dX5_isAhead_77 : decode cX5_isAhead 77 = .ok (.iconst 1, 1) := by decide +kernel
theorem dX5_isAhead_78 : decode cX5_isAhead 78 = .ok (.goto 4, 3) := by decide +kernel
theorem dX5_isAhead_81 : decode cX5_isAhead 81 = .ok (.iconst 0, 1) := by decide +kernel
theorem dX5_isAhead_82 : decode cX5_isAhead 82 = .ok (.ireturn, 1) := by decide +kernel
theorem dX5_isAhead_83 : decode cX5_isAhead 83 = .ok (.aload_n 0, 1) := by decide +kernel
theorem dX5_isAhead_84 : decode cX5_isAhead 84 = .ok (.iload_n 1, 1) := by decide +kernel
theorem dX5_isAhead_85 : decode cX5_isAhead 85 = .ok (.invokevirtual 40, 3) := by decide +kernel
theorem dX5_isAhead_88 : decode cX5_isAhead 88 = .ok (.aload_n 0, 1) := by decide +kernel
theorem dX5_isAhead_89 : decode cX5_isAhead 89 = .ok (.iload_n 2, 1) := by decide +kernel
theorem dX5_isAhead_90 : decode cX5_isAhead 90 = .ok (.invokevirtual 40, 3) := by decide +kernel
theorem dX5_isAhead_93 : decode cX5_isAhead 93 = .ok (.if_icmp .eq 22, 3) := by decide +kernel
theorem dX5_isAhead_96 : decode cX5_isAhead 96 = .ok (.aload_n 0, 1) := by decide +kernel
theorem dX5_isAhead_97 : decode cX5_isAhead 97 = .ok (.iload_n 1, 1) := by decide +kernel
theorem dX5_isAhead_98 : decode cX5_isAhead 98 = .ok (.invokevirtual 40, 3) := by decide +kernel
theorem dX5_isAhead_101 : decode cX5_isAhead 101 = .ok (.aload_n 0, 1) := by decide +kernel
theorem dX5_isAhead_102 : decode cX5_isAhead 102 = .ok (.iload_n 2, 1) := by decide +kernel
theorem dX5_isAhead_103 : decode cX5_isAhead 103 = .ok (.invokevirtual 40, 3) := by decide +kernel
theorem dX5_isAhead_106 : decode cX5_isAhead 106 = .ok (.if_icmp .ge 7, 3) := by decide +kernel
theorem dX5_isAhead_109 : decode cX5_isAhead 109 = .ok (.iconst 1, 1) := by decide +kernel
theorem dX5_isAhead_110 : decode cX5_isAhead 110 = .ok (.goto 4, 3) := by decide +kernel
theorem dX5_isAhead_113 : decode cX5_isAhead 113 = .ok (.iconst 0, 1) := by decide +kernel
theorem dX5_isAhead_114 : decode cX5_isAhead 114 = .ok (.ireturn, 1) := by decide +kernel
theorem dX5_isAhead_115 : decode cX5_isAhead 115 = .ok (.aload_n 0, 1) := by decide +kernel
theorem dX5_isAhead_116 : decode cX5_isAhead 116 = .ok (.iload_n 1, 1) := by decide +kernel
theorem dX5_isAhead_117 : decode cX5_isAhead 117 = .ok (.invokevirtual 36, 3) := by decide +kernel
theorem dX5_isAhead_120 : decode cX5_isAhead 120 = .ok (.aload_n 0, 1) := by decide +kernel
theorem dX5_isAhead_121 : decode cX5_isAhead 121 = .ok (.iload_n 1, 1) := by decide +kernel
theorem dX5_isAhead_122 : decode cX5_isAhead 122 = .ok (.invokevirtual 40, 3) := by decide +kernel
theorem dX5_isAhead_125 : decode cX5_isAhead 125 = .ok (.isub, 1) := by decide +kernel
theorem dX5_isAhead_126 : decode cX5_isAhead 126 = .ok (.istore 4, 2) := by decide +kernel
theorem dX5_isAhead_128 : decode cX5_isAhead 128 = .ok (.aload_n 0, 1) := by decide +kernel
theorem dX5_isAhead_129 : decode cX5_isAhead 129 = .ok (.iload_n 2, 1) := by decide +kernel
theorem dX5_isAhead_130 : decode cX5_isAhead 130 = .ok (.invokevirtual 36, 3) := by decide +kernel
theorem dX5_isAhead_133 : decode cX5_isAhead 133 = .ok (.aload_n 0, 1) := by decide +kernel
theorem dX5_isAhead_134 : decode cX5_isAhead 134 = .ok (.iload_n 2, 1) := by decide +kernel
theorem dX5_isAhead_135 : decode cX5_isAhead 135 = .ok (.invokevirtual 40, 3) := by decide +kernel
theorem dX5_isAhead_138 : decode cX5_isAhead 138 = .ok (.isub, 1) := by decide +kernel
theorem dX5_isAhead_139 : decode cX5_isAhead 139 = .ok (.istore 5, 2) := by decide +kernel
theorem dX5_isAhead_141 : decode cX5_isAhead 141 = .ok (.iload 4, 2) := by decide +kernel
theorem dX5_isAhead_143 : decode cX5_isAhead 143 = .ok (.iload 5, 2) := by decide +kernel
theorem dX5_isAhead_145 : decode cX5_isAhead 145 = .ok (.if_icmp .eq 16, 3) := by decide +kernel
theorem dX5_isAhead_148 : decode cX5_isAhead 148 = .ok (.iload 4, 2) := by decide +kernel
theorem dX5_isAhead_150 : decode cX5_isAhead 150 = .ok (.iload 5, 2) := by decide +kernel
theorem dX5_isAhead_152 : decode cX5_isAhead 152 = .ok (.if_icmp .le 7, 3) := by decide +kernel
theorem dX5_isAhead_155 : decode cX5_isAhead 155 = .ok (.iconst 1, 1) := by decide +kernel
theorem dX5_isAhead_156 : decode cX5_isAhead 156 = .ok (.goto 4, 3) := by decide +kernel
theorem dX5_isAhead_159 : decode cX5_isAhead 159 = .ok (.iconst 0, 1) := by decide +kernel
theorem dX5_isAhead_160 : decode cX5_isAhead 160 = .ok (.ireturn, 1) := by decide +kernel
theorem dX5_isAhead_161 : decode cX5_isAhead 161 = .ok (.aload_n 0, 1) := by decide +kernel
theorem dX5_isAhead_162 : decode cX5_isAhead 162 = .ok (.iload_n 1, 1) := by decide +kernel
theorem dX5_isAhead_163 : decode cX5_isAhead 163 = .ok (.invokevirtual 64, 3) := by decide +kernel
theorem dX5_isAhead_166 : decode cX5_isAhead 166 = .ok (.aload_n 0, 1) := by decide +kernel
theorem dX5_isAhead_167 : decode cX5_isAhead 167 = .ok (.iload_n 2, 1) := by decide +kernel
theorem dX5_isAhead_168 : decode cX5_isAhead 168 = .ok (.invokevirtual 64, 3) := by decide +kernel
theorem dX5_isAhead_171 : decode cX5_isAhead 171 = .ok (.if_icmp .eq 24, 3) := by decide +kernel
theorem dX5_isAhead_174 : decode cX5_isAhead 174 = .ok (.aload_n 0, 1) := by decide +kernel
theorem dX5_isAhead_175 : decode cX5_isAhead 175 = .ok (.iload_n 1, 1) := by decide +kernel
theorem dX5_isAhead_176 : decode cX5_isAhead 176 = .ok (.invokevirtual 64, 3) := by decide +kernel
theorem dX5_isAhead_179 : decode cX5_isAhead 179 = .ok (.aload_n 0, 1) := by decide +kernel
theorem dX5_isAhead_180 : decode cX5_isAhead 180 = .ok (.iload_n 2, 1) := by decide +kernel
theorem dX5_isAhead_181 : decode cX5_isAhead 181 = .ok (.invokevirtual 64, 3) := by decide +kernel
theorem dX5_isAhead_184 : decode cX5_isAhead 184 = .ok (.if_icmp .le 7, 3) := by decide +kernel
theorem dX5_isAhead_187 : decode cX5_isAhead 187 = .ok (.iconst 1, 1) := by decide +kernel
theorem dX5_isAhead_188 : decode cX5_isAhead 188 = .ok (.goto 17, 3) := by decide +kernel
theorem dX5_isAhead_191 : decode cX5_isAhead 191 = .ok (.iconst 0, 1) := by decide +kernel
theorem dX5_isAhead_192 : decode cX5_isAhead 192 = .ok (.goto 13, 3) := by decide +kernel
theorem dX5_isAhead_195 : decode cX5_isAhead 195 = .ok (.iload_n 1, 1) := by decide +kernel
theorem dX5_isAhead_196 : decode cX5_isAhead 196 = .ok (.iload_n 2, 1) := by decide +kernel
theorem dX5_isAhead_197 : decode cX5_isAhead 197 = .ok (.if_icmp .ge 7, 3) := by decide +kernel
theorem dX5_isAhead_200 : decode cX5_isAhead 200 = .ok (.iconst 1, 1) := by decide +kernel
theorem dX5_isAhead_201 : decode cX5_isAhead 201 = .ok (.goto 4, 3) := by decide +kernel
theorem dX5_isAhead_204 : decode cX5_isAhead 204 = .ok (.iconst 0, 1) := by decide +kernel
theorem dX5_isAhead_205 : decode cX5_isAhead 205 = .ok (.ireturn, 1) := by decide +kernel
theorem dX5_isFree_0 : decode cX5_isFree 0 = .ok (.iconst 1, 1) := by decide +kernel
theorem dX5_isFree_1 : decode cX5_isFree 1 = .ok (.istore 4, 2) := by decide +kernel
theorem dX5_isFree_3 : decode cX5_isFree 3 = .ok (.iconst 0, 1) := by decide +kernel
theorem dX5_isFree_4 : decode cX5_isFree 4 = .ok (.istore 5, 2) := by decide +kernel
theorem dX5_isFree_6 : decode cX5_isFree 6 = .ok (.iload 5, 2) := by decide +kernel
theorem dX5_isFree_8 : decode cX5_isFree 8 = .ok (.aload_n 0, 1) := by decide +kernel
theorem dX5_isFree_9 : decode cX5_isFree 9 = .ok (.getfield 7, 3) := by decide +kernel
theorem dX5_isFree_12 : decode cX5_isFree 12 = .ok (.iconst 4, 1) := by decide +kernel
theorem dX5_isFree_13 : decode cX5_isFree 13 = .ok (.iaload, 1) := by decide +kernel
theorem dX5_isFree_14 : decode cX5_isFree 14 = .ok (.if_icmp .ge 94, 3) := by decide +kernel
theorem dX5_isFree_17 : decode cX5_isFree 17 = .ok (.iload 5, 2) := by decide +kernel
theorem dX5_isFree_19 : decode cX5_isFree 19 = .ok (.iload_n 1, 1) := by decide +kernel
theorem dX5_isFree_20 : decode cX5_isFree 20 = .ok (.if_icmp .eq 23, 3) := by decide +kernel
theorem dX5_isFree_23 : decode cX5_isFree 23 = .ok (.aload_n 0, 1) := by decide +kernel
theorem dX5_isFree_24 : decode cX5_isFree 24 = .ok (.getfield 16, 3) := by decide +kernel
theorem dX5_isFree_27 : decode cX5_isFree 27 = .ok (.bipush 7, 2) := by decide +kernel
theorem dX5_isFree_29 : decode cX5_isFree 29 = .ok (.iload 5, 2) := by decide +kernel
theorem dX5_isFree_31 : decode cX5_isFree 31 = .ok (.imul, 1) := by decide +kernel
theorem dX5_isFree_32 : decode cX5_isFree 32 = .ok (.iload_n 2, 1) := by decide +kernel
theorem dX5_isFree_33 : decode cX5_isFree 33 = .ok (.iadd, 1) := by decide +kernel
theorem dX5_isFree_34 : decode cX5_isFree 34 = .ok (.iaload, 1) := by decide +kernel
theorem dX5_isFree_35 : decode cX5_isFree 35 = .ok (.iload_n 3, 1) := by decide +kernel
theorem dX5_isFree_36 : decode cX5_isFree 36 = .ok (.if_icmp .ne 7, 3) := by decide +kernel
theorem dX5_isFree_39 : decode cX5_isFree 39 = .ok (.iconst 1, 1) := by decide +kernel
theorem dX5_isFree_40 : decode cX5_isFree 40 = .ok (.goto 4, 3) := by decide +kernel
theorem dX5_isFree_43 : decode cX5_isFree 43 = .ok (.iconst 0, 1) := by decide +kernel
theorem dX5_isFree_44 : decode cX5_isFree 44 = .ok (.istore 6, 2) := by decide +kernel
theorem dX5_isFree_46 : decode cX5_isFree 46 = .ok (.iload 4, 2) := by decide +kernel
theorem dX5_isFree_48 : decode cX5_isFree 48 = .ok (.ifCond .eq 51, 3) := by decide +kernel
theorem dX5_isFree_51 : decode cX5_isFree 51 = .ok (.iload 6, 2) := by decide +kernel
theorem dX5_isFree_53 : decode cX5_isFree 53 = .ok (.ifCond .eq 42, 3) := by decide +kernel
theorem dX5_isFree_56 : decode cX5_isFree 56 = .ok (.aload_n 0, 1) := by decide +kernel
theorem dX5_isFree_57 : decode cX5_isFree 57 = .ok (.iload 5, 2) := by decide +kernel
theorem dX5_isFree_59 : decode cX5_isFree 59 = .ok (.invokevirtual 40, 3) := by decide +kernel
theorem dX5_isFree_62 : decode cX5_isFree 62 = .ok (.aload_n 0, 1) := by decide +kernel
theorem dX5_isFree_63 : decode cX5_isFree 63 = .ok (.iload_n 1, 1) := by decide +kernel
theorem dX5_isFree_64 : decode cX5_isFree 64 = .ok (.invokevirtual 36, 3) := by decide +kernel
theorem dX5_isFree_67 : decode cX5_isFree 67 = .ok (.if_icmp .gt 28, 3) := by decide +kernel
theorem dX5_isFree_70 : decode cX5_isFree 70 = .ok (.aload_n 0, 1) := by decide +kernel
theorem dX5_isFree_71 : decode cX5_isFree 71 = .ok (.iload_n 1, 1) := by decide +kernel
theorem dX5_isFree_72 : decode cX5_isFree 72 = .ok (.invokevirtual 40, 3) := by decide +kernel
theorem dX5_isFree_75 : decode cX5_isFree 75 = .ok (.aload_n 0, 1) := by decide +kernel
theorem dX5_isFree_76 : decode cX5_isFree 76 = .ok (.iload 5, 2) := by decide +kernel
theorem dX5_isFree_78 : decode cX5_isFree 78 = .ok (.invokevirtual 36, 3) := by decide +kernel
theorem dX5_isFree_81 : decode cX5_isFree 81 = .ok (.if_icmp .gt 14, 3) := by decide +kernel
theorem dX5_isFree_84 : decode cX5_isFree 84 = .ok (.aload_n 0, 1) := by decide +kernel
theorem dX5_isFree_85 : decode cX5_isFree 85 = .ok (.iload 5, 2) := by decide +kernel
theorem dX5_isFree_87 : decode cX5_isFree 87 = .ok (.iload_n 1, 1) := by decide +kernel
theorem dX5_isFree_88 : decode cX5_isFree 88 = .ok (.iload_n 2, 1) := by decide +kernel
theorem dX5_isFree_89 : decode cX5_isFree 89 = .ok (.invokevirtual 67, 3) := by decide +kernel
theorem dX5_isFree_92 : decode cX5_isFree 92 = .ok (.ifCond .ne 7, 3) := by decide +kernel
theorem dX5_isFree_95 : decode cX5_isFree 95 = .ok (.iconst 1, 1) := by decide +kernel
theorem dX5_isFree_96 : decode cX5_isFree 96 = .ok (.goto 4, 3) := by decide +kernel
theorem dX5_isFree_99 : decode cX5_isFree 99 = .ok (.iconst 0, 1) := by decide +kernel
theorem dX5_isFree_100 : decode cX5_isFree 100 = .ok (.istore 4, 2) := by decide +kernel
theorem dX5_isFree_102 : decode cX5_isFree 102 = .ok (.iinc 5 1, 3) := by decide +kernel
theorem dX5_isFree_105 : decode cX5_isFree 105 = .ok (.goto (-99), 3) := by decide +kernel
theorem dX5_isFree_108 : decode cX5_isFree 108 = .ok (.iload 4, 2) := by decide +kernel
theorem dX5_isFree_110 : decode cX5_isFree 110 = .ok (.ireturn, 1) := by decide +kernel
theorem dX5_meetsIn_0 : decode cX5_meetsIn 0 = .ok (.aload_n 0, 1) := by decide +kernel
theorem dX5_meetsIn_1 : decode cX5_meetsIn 1 = .ok (.iload_n 1, 1) := by decide +kernel
theorem dX5_meetsIn_2 : decode cX5_meetsIn 2 = .ok (.invokevirtual 40, 3) := by decide +kernel
theorem dX5_meetsIn_5 : decode cX5_meetsIn 5 = .ok (.aload_n 0, 1) := by decide +kernel
theorem dX5_meetsIn_6 : decode cX5_meetsIn 6 = .ok (.iload_n 2, 1) := by decide +kernel
theorem dX5_meetsIn_7 : decode cX5_meetsIn 7 = .ok (.invokevirtual 40, 3) := by decide +kernel
theorem dX5_meetsIn_10 : decode cX5_meetsIn 10 = .ok (.if_icmp .le 11, 3) := by decide +kernel
theorem dX5_meetsIn_13 : decode cX5_meetsIn 13 = .ok (.aload_n 0, 1) := by decide +kernel
theorem dX5_meetsIn_14 : decode cX5_meetsIn 14 = .ok (.iload_n 1, 1) := by decide +kernel
theorem dX5_meetsIn_15 : decode cX5_meetsIn 15 = .ok (.invokevirtual 40, 3) := by decide +kernel
theorem dX5_meetsIn_18 : decode cX5_meetsIn 18 = .ok (.goto 8, 3) := by decide +kernel
theorem dX5_meetsIn_21 : decode cX5_meetsIn 21 = .ok (.aload_n 0, 1) := by decide +kernel
theorem dX5_meetsIn_22 : decode cX5_meetsIn 22 = .ok (.iload_n 2, 1) := by decide +kernel
theorem dX5_meetsIn_23 : decode cX5_meetsIn 23 = .ok (.invokevirtual 40, 3) := by decide +kernel
theorem dX5_meetsIn_26 : decode cX5_meetsIn 26 = .ok (.istore 4, 2) := by decide +kernel
theorem dX5_meetsIn_28 : decode cX5_meetsIn 28 = .ok (.aload_n 0, 1) := by decide +kernel
theorem dX5_meetsIn_29 : decode cX5_meetsIn 29 = .ok (.iload_n 1, 1) := by decide +kernel
theorem dX5_meetsIn_30 : decode cX5_meetsIn 30 = .ok (.invokevirtual 36, 3) := by decide +kernel
theorem dX5_meetsIn_33 : decode cX5_meetsIn 33 = .ok (.aload_n 0, 1) := by decide +kernel
theorem dX5_meetsIn_34 : decode cX5_meetsIn 34 = .ok (.iload_n 2, 1) := by decide +kernel
theorem dX5_meetsIn_35 : decode cX5_meetsIn 35 = .ok (.invokevirtual 36, 3) := by decide +kernel
theorem dX5_meetsIn_38 : decode cX5_meetsIn 38 = .ok (.if_icmp .ge 11, 3) := by decide +kernel
theorem dX5_meetsIn_41 : decode cX5_meetsIn 41 = .ok (.aload_n 0, 1) := by decide +kernel
theorem dX5_meetsIn_42 : decode cX5_meetsIn 42 = .ok (.iload_n 1, 1) := by decide +kernel
theorem dX5_meetsIn_43 : decode cX5_meetsIn 43 = .ok (.invokevirtual 36, 3) := by decide +kernel
theorem dX5_meetsIn_46 : decode cX5_meetsIn 46 = .ok (.goto 8, 3) := by decide +kernel
theorem dX5_meetsIn_49 : decode cX5_meetsIn 49 = .ok (.aload_n 0, 1) := by decide +kernel
theorem dX5_meetsIn_50 : decode cX5_meetsIn 50 = .ok (.iload_n 2, 1) := by decide +kernel
theorem dX5_meetsIn_51 : decode cX5_meetsIn 51 = .ok (.invokevirtual 36, 3) := by decide +kernel
theorem dX5_meetsIn_54 : decode cX5_meetsIn 54 = .ok (.istore 5, 2) := by decide +kernel
theorem dX5_meetsIn_56 : decode cX5_meetsIn 56 = .ok (.iload 4, 2) := by decide +kernel
theorem dX5_meetsIn_58 : decode cX5_meetsIn 58 = .ok (.aload_n 0, 1) := by decide +kernel
theorem dX5_meetsIn_59 : decode cX5_meetsIn 59 = .ok (.getfield 22, 3) := by decide +kernel
theorem dX5_meetsIn_62 : decode cX5_meetsIn 62 = .ok (.iload_n 3, 1) := by decide +kernel
theorem dX5_meetsIn_63 : decode cX5_meetsIn 63 = .ok (.iconst 1, 1) := by decide +kernel
theorem dX5_meetsIn_64 : decode cX5_meetsIn 64 = .ok (.iadd, 1) := by decide +kernel
theorem dX5_meetsIn_65 : decode cX5_meetsIn 65 = .ok (.iaload, 1) := by decide +kernel
theorem dX5_meetsIn_66 : decode cX5_meetsIn 66 = .ok (.if_icmp .ge 18, 3) := by decide +kernel
theorem dX5_meetsIn_69 : decode cX5_meetsIn 69 = .ok (.iload 5, 2) := by decide +kernel
theorem dX5_meetsIn_71 : decode cX5_meetsIn 71 = .ok (.aload_n 0, 1) := by decide +kernel
theorem dX5_meetsIn_72 : decode cX5_meetsIn 72 = .ok (.getfield 22, 3) := by decide +kernel
theorem dX5_meetsIn_75 : decode cX5_meetsIn 75 = .ok (.iload_n 3, 1) := by decide +kernel
theorem dX5_meetsIn_76 : decode cX5_meetsIn 76 = .ok (.iaload, 1) := by decide +kernel
theorem dX5_meetsIn_77 : decode cX5_meetsIn 77 = .ok (.if_icmp .lt 7, 3) := by decide +kernel
theorem dX5_meetsIn_80 : decode cX5_meetsIn 80 = .ok (.iconst 1, 1) := by decide +kernel
theorem dX5_meetsIn_81 : decode cX5_meetsIn 81 = .ok (.goto 4, 3) := by decide +kernel
theorem dX5_meetsIn_84 : decode cX5_meetsIn 84 = .ok (.iconst 0, 1) := by decide +kernel
theorem dX5_meetsIn_85 : decode cX5_meetsIn 85 = .ok (.ireturn, 1) := by decide +kernel
theorem dX5_laysBar_0 : decode cX5_laysBar 0 = .ok (.iload_n 2, 1) := by decide +kernel
theorem dX5_laysBar_1 : decode cX5_laysBar 1 = .ok (.ifCond .ne 8, 3) := by decide +kernel
theorem dX5_laysBar_4 : decode cX5_laysBar 4 = .ok (.bipush (-9), 2) := by decide +kernel
theorem dX5_laysBar_6 : decode cX5_laysBar 6 = .ok (.goto 16, 3) := by decide +kernel
theorem dX5_laysBar_9 : decode cX5_laysBar 9 = .ok (.aload_n 0, 1) := by decide +kernel
theorem dX5_laysBar_10 : decode cX5_laysBar 10 = .ok (.getfield 16, 3) := by decide +kernel
theorem dX5_laysBar_13 : decode cX5_laysBar 13 = .ok (.bipush 7, 2) := by decide +kernel
theorem dX5_laysBar_15 : decode cX5_laysBar 15 = .ok (.iload_n 1, 1) := by decide +kernel
theorem dX5_laysBar_16 : decode cX5_laysBar 16 = .ok (.imul, 1) := by decide +kernel
theorem dX5_laysBar_17 : decode cX5_laysBar 17 = .ok (.iload_n 2, 1) := by decide +kernel
theorem dX5_laysBar_18 : decode cX5_laysBar 18 = .ok (.iadd, 1) := by decide +kernel
theorem dX5_laysBar_19 : decode cX5_laysBar 19 = .ok (.iconst 1, 1) := by decide +kernel
theorem dX5_laysBar_20 : decode cX5_laysBar 20 = .ok (.isub, 1) := by decide +kernel
theorem dX5_laysBar_21 : decode cX5_laysBar 21 = .ok (.iaload, 1) := by decide +kernel
theorem dX5_laysBar_22 : decode cX5_laysBar 22 = .ok (.istore_n 3, 1) := by decide +kernel
theorem dX5_laysBar_23 : decode cX5_laysBar 23 = .ok (.iconst 0, 1) := by decide +kernel
theorem dX5_laysBar_24 : decode cX5_laysBar 24 = .ok (.istore 4, 2) := by decide +kernel
theorem dX5_laysBar_26 : decode cX5_laysBar 26 = .ok (.aload_n 0, 1) := by decide +kernel
theorem dX5_laysBar_27 : decode cX5_laysBar 27 = .ok (.iload_n 1, 1) := by decide +kernel
theorem dX5_laysBar_28 : decode cX5_laysBar 28 = .ok (.iload_n 2, 1) := by decide +kernel
theorem dX5_laysBar_29 : decode cX5_laysBar 29 = .ok (.iload 4, 2) := by decide +kernel
theorem dX5_laysBar_31 : decode cX5_laysBar 31 = .ok (.invokevirtual 70, 3) := by decide +kernel
theorem dX5_laysBar_34 : decode cX5_laysBar 34 = .ok (.ifCond .ne 9, 3) := by decide +kernel
theorem dX5_laysBar_37 : decode cX5_laysBar 37 = .ok (.iinc 4 1, 3) := by decide +kernel
theorem dX5_laysBar_40 : decode cX5_laysBar 40 = .ok (.goto (-14), 3) := by decide +kernel
theorem dX5_laysBar_43 : decode cX5_laysBar 43 = .ok (.aload_n 0, 1) := by decide +kernel
theorem dX5_laysBar_44 : decode cX5_laysBar 44 = .ok (.getfield 16, 3) := by decide +kernel
theorem dX5_laysBar_47 : decode cX5_laysBar 47 = .ok (.bipush 7, 2) := by decide +kernel
theorem dX5_laysBar_49 : decode cX5_laysBar 49 = .ok (.iload_n 1, 1) := by decide +kernel
theorem dX5_laysBar_50 : decode cX5_laysBar 50 = .ok (.imul, 1) := by decide +kernel
theorem dX5_laysBar_51 : decode cX5_laysBar 51 = .ok (.iload_n 2, 1) := by decide +kernel
theorem dX5_laysBar_52 : decode cX5_laysBar 52 = .ok (.iadd, 1) := by decide +kernel
theorem dX5_laysBar_53 : decode cX5_laysBar 53 = .ok (.iload_n 3, 1) := by decide +kernel
theorem dX5_laysBar_54 : decode cX5_laysBar 54 = .ok (.bipush (-9), 2) := by decide +kernel
theorem dX5_laysBar_56 : decode cX5_laysBar 56 = .ok (.if_icmp .eq 17, 3) := by decide +kernel
theorem dX5_laysBar_59 : decode cX5_laysBar 59 = .ok (.aload_n 0, 1) := by decide +kernel
theorem dX5_laysBar_60 : decode cX5_laysBar 60 = .ok (.iload_n 1, 1) := by decide +kernel
theorem dX5_laysBar_61 : decode cX5_laysBar 61 = .ok (.iload_n 2, 1) := by decide +kernel
theorem dX5_laysBar_62 : decode cX5_laysBar 62 = .ok (.iload_n 3, 1) := by decide +kernel
theorem dX5_laysBar_63 : decode cX5_laysBar 63 = .ok (.invokevirtual 70, 3) := by decide +kernel
theorem dX5_laysBar_66 : decode cX5_laysBar 66 = .ok (.ifCond .eq 7, 3) := by decide +kernel
theorem dX5_laysBar_69 : decode cX5_laysBar 69 = .ok (.iload_n 3, 1) := by decide +kernel
theorem dX5_laysBar_70 : decode cX5_laysBar 70 = .ok (.goto 5, 3) := by decide +kernel
theorem dX5_laysBar_73 : decode cX5_laysBar 73 = .ok (.iload 4, 2) := by decide +kernel
theorem dX5_laysBar_75 : decode cX5_laysBar 75 = .ok (.iastore, 1) := by decide +kernel
theorem dX5_laysBar_76 : decode cX5_laysBar 76 = .ok (.return_, 1) := by decide +kernel
theorem dX5_laysWeek_0 : decode cX5_laysWeek 0 = .ok (.iconst 1, 1) := by decide +kernel
theorem dX5_laysWeek_1 : decode cX5_laysWeek 1 = .ok (.istore_n 2, 1) := by decide +kernel
theorem dX5_laysWeek_2 : decode cX5_laysWeek 2 = .ok (.iload_n 2, 1) := by decide +kernel
theorem dX5_laysWeek_3 : decode cX5_laysWeek 3 = .ok (.ifCond .eq 123, 3) := by decide +kernel
theorem dX5_laysWeek_6 : decode cX5_laysWeek 6 = .ok (.bipush (-9), 2) := by decide +kernel
theorem dX5_laysWeek_8 : decode cX5_laysWeek 8 = .ok (.istore_n 3, 1) := by decide +kernel
theorem dX5_laysWeek_9 : decode cX5_laysWeek 9 = .ok (.iconst 0, 1) := by decide +kernel
theorem dX5_laysWeek_10 : decode cX5_laysWeek 10 = .ok (.istore 4, 2) := by decide +kernel
theorem dX5_laysWeek_12 : decode cX5_laysWeek 12 = .ok (.iload 4, 2) := by decide +kernel
theorem dX5_laysWeek_14 : decode cX5_laysWeek 14 = .ok (.aload_n 0, 1) := by decide +kernel
theorem dX5_laysWeek_15 : decode cX5_laysWeek 15 = .ok (.getfield 7, 3) := by decide +kernel
theorem dX5_laysWeek_18 : decode cX5_laysWeek 18 = .ok (.iconst 4, 1) := by decide +kernel
theorem dX5_laysWeek_19 : decode cX5_laysWeek 19 = .ok (.iaload, 1) := by decide +kernel
theorem dX5_laysWeek_20 : decode cX5_laysWeek 20 = .ok (.if_icmp .ge 81, 3) := by decide +kernel
theorem dX5_laysWeek_23 : decode cX5_laysWeek 23 = .ok (.aload_n 0, 1) := by decide +kernel
theorem dX5_laysWeek_24 : decode cX5_laysWeek 24 = .ok (.iload 4, 2) := by decide +kernel
theorem dX5_laysWeek_26 : decode cX5_laysWeek 26 = .ok (.invokevirtual 73, 3) := by decide +kernel
theorem dX5_laysWeek_29 : decode cX5_laysWeek 29 = .ok (.ifCond .eq 34, 3) := by decide +kernel
theorem dX5_laysWeek_32 : decode cX5_laysWeek 32 = .ok (.aload_n 0, 1) := by decide +kernel
theorem dX5_laysWeek_33 : decode cX5_laysWeek 33 = .ok (.iload 4, 2) := by decide +kernel
theorem dX5_laysWeek_35 : decode cX5_laysWeek 35 = .ok (.iload_n 1, 1) := by decide +kernel
theorem dX5_laysWeek_36 : decode cX5_laysWeek 36 = .ok (.invokevirtual 76, 3) := by decide +kernel
theorem dX5_laysWeek_39 : decode cX5_laysWeek 39 = .ok (.ifCond .eq 24, 3) := by decide +kernel
theorem dX5_laysWeek_42 : decode cX5_laysWeek 42 = .ok (.aload_n 0, 1) := by decide +kernel
theorem dX5_laysWeek_43 : decode cX5_laysWeek 43 = .ok (.getfield 16, 3) := by decide +kernel
theorem dX5_laysWeek_46 : decode cX5_laysWeek 46 = .ok (.bipush 7, 2) := by decide +kernel
theorem dX5_laysWeek_48 : decode cX5_laysWeek 48 = .ok (.iload 4, 2) := by decide +kernel
theorem dX5_laysWeek_50 : decode cX5_laysWeek 50 = .ok (.imul, 1) := by decide +kernel
theorem dX5_laysWeek_51 : decode cX5_laysWeek 51 = .ok (.iload_n 1, 1) := by decide +kernel
theorem dX5_laysWeek_52 : decode cX5_laysWeek 52 = .ok (.iadd, 1) := by decide +kernel
theorem dX5_laysWeek_53 : decode cX5_laysWeek 53 = .ok (.iaload, 1) := by decide +kernel
theorem dX5_laysWeek_54 : decode cX5_laysWeek 54 = .ok (.bipush (-9), 2) := by decide +kernel
theorem dX5_laysWeek_56 : decode cX5_laysWeek 56 = .ok (.if_icmp .ne 7, 3) := by decide +kernel
theorem dX5_laysWeek_59 : decode cX5_laysWeek 59 = .ok (.iconst 1, 1) := by decide +kernel
theorem dX5_laysWeek_60 : decode cX5_laysWeek 60 = .ok (.goto 4, 3) := by decide +kernel
theorem dX5_laysWeek_63 : decode cX5_laysWeek 63 = .ok (.iconst 0, 1) := by decide +kernel
theorem dX5_laysWeek_64 : decode cX5_laysWeek 64 = .ok (.istore 5, 2) := by decide +kernel
theorem dX5_laysWeek_66 : decode cX5_laysWeek 66 = .ok (.iload 5, 2) := by decide +kernel
theorem dX5_laysWeek_68 : decode cX5_laysWeek 68 = .ok (.ifCond .eq 25, 3) := by decide +kernel
theorem dX5_laysWeek_71 : decode cX5_laysWeek 71 = .ok (.iload_n 3, 1) := by decide +kernel
theorem dX5_laysWeek_72 : decode cX5_laysWeek 72 = .ok (.bipush (-9), 2) := by decide +kernel
theorem dX5_laysWeek_74 : decode cX5_laysWeek 74 = .ok (.if_icmp .eq 14, 3) := by decide +kernel
theorem dX5_laysWeek_77 : decode cX5_laysWeek 77 = .ok (.aload_n 0, 1) := by decide +kernel
theorem dX5_laysWeek_78 : decode cX5_laysWeek 78 = .ok (.iload 4, 2) := by decide +kernel
theorem dX5_laysWeek_80 : decode cX5_laysWeek 80 = .ok (.iload_n 3, 1) := by decide +kernel
theorem dX5_laysWeek_81 : decode cX5_laysWeek 81 = .ok (.iload_n 1, 1) := by decide +kernel
theorem dX5_laysWeek_82 : decode cX5_laysWeek 82 = .ok (.invokevirtual 79, 3) := by decide +kernel
theorem dX5_laysWeek_85 : decode cX5_laysWeek 85 = .ok (.ifCond .eq 8, 3) := by decide +kernel
theorem dX5_laysWeek_88 : decode cX5_laysWeek 88 = .ok (.iload 4, 2) := by decide +kernel
theorem dX5_laysWeek_90 : decode cX5_laysWeek 90 = .ok (.goto 4, 3) := by decide +kernel
theorem dX5_laysWeek_93 : decode cX5_laysWeek 93 = .ok (.iload_n 3, 1) := by decide +kernel
theorem dX5_laysWeek_94 : decode cX5_laysWeek 94 = .ok (.istore_n 3, 1) := by decide +kernel
theorem dX5_laysWeek_95 : decode cX5_laysWeek 95 = .ok (.iinc 4 1, 3) := by decide +kernel
theorem dX5_laysWeek_98 : decode cX5_laysWeek 98 = .ok (.goto (-86), 3) := by decide +kernel
theorem dX5_laysWeek_101 : decode cX5_laysWeek 101 = .ok (.iload_n 3, 1) := by decide +kernel
theorem dX5_laysWeek_102 : decode cX5_laysWeek 102 = .ok (.bipush (-9), 2) := by decide +kernel
theorem dX5_laysWeek_104 : decode cX5_laysWeek 104 = .ok (.if_icmp .eq 7, 3) := by decide +kernel
theorem dX5_laysWeek_107 : decode cX5_laysWeek 107 = .ok (.iconst 1, 1) := by decide +kernel
theorem dX5_laysWeek_108 : decode cX5_laysWeek 108 = .ok (.goto 4, 3) := by decide +kernel
theorem dX5_laysWeek_111 : decode cX5_laysWeek 111 = .ok (.iconst 0, 1) := by decide +kernel
theorem dX5_laysWeek_112 : decode cX5_laysWeek 112 = .ok (.istore_n 2, 1) := by decide +kernel
theorem dX5_laysWeek_113 : decode cX5_laysWeek 113 = .ok (.iload_n 2, 1) := by decide +kernel
theorem dX5_laysWeek_114 : decode cX5_laysWeek 114 = .ok (.ifCond .eq 9, 3) := by decide +kernel
theorem dX5_laysWeek_117 : decode cX5_laysWeek 117 = .ok (.aload_n 0, 1) := by decide +kernel
theorem dX5_laysWeek_118 : decode cX5_laysWeek 118 = .ok (.iload_n 3, 1) := by decide +kernel
theorem dX5_laysWeek_119 : decode cX5_laysWeek 119 = .ok (.iload_n 1, 1) := by decide +kernel
theorem dX5_laysWeek_120 : decode cX5_laysWeek 120 = .ok (.invokevirtual 82, 3) := by decide +kernel
theorem dX5_laysWeek_123 : decode cX5_laysWeek 123 = .ok (.goto (-121), 3) := by decide +kernel
theorem dX5_laysWeek_126 : decode cX5_laysWeek 126 = .ok (.return_, 1) := by decide +kernel
theorem dX5_isShortBefore_0 : decode cX5_isShortBefore 0 = .ok (.aload_n 0, 1) := by decide +kernel
theorem dX5_isShortBefore_1 : decode cX5_isShortBefore 1 = .ok (.iload_n 1, 1) := by decide +kernel
theorem dX5_isShortBefore_2 : decode cX5_isShortBefore 2 = .ok (.invokevirtual 64, 3) := by decide +kernel
theorem dX5_isShortBefore_5 : decode cX5_isShortBefore 5 = .ok (.aload_n 0, 1) := by decide +kernel
theorem dX5_isShortBefore_6 : decode cX5_isShortBefore 6 = .ok (.iload_n 2, 1) := by decide +kernel
theorem dX5_isShortBefore_7 : decode cX5_isShortBefore 7 = .ok (.invokevirtual 64, 3) := by decide +kernel
theorem dX5_isShortBefore_10 : decode cX5_isShortBefore 10 = .ok (.if_icmp .eq 22, 3) := by decide +kernel
theorem dX5_isShortBefore_13 : decode cX5_isShortBefore 13 = .ok (.aload_n 0, 1) := by decide +kernel
theorem dX5_isShortBefore_14 : decode cX5_isShortBefore 14 = .ok (.iload_n 1, 1) := by decide +kernel
theorem dX5_isShortBefore_15 : decode cX5_isShortBefore 15 = .ok (.invokevirtual 64, 3) := by decide +kernel
theorem dX5_isShortBefore_18 : decode cX5_isShortBefore 18 = .ok (.aload_n 0, 1) := by decide +kernel
theorem dX5_isShortBefore_19 : decode cX5_isShortBefore 19 = .ok (.iload_n 2, 1) := by decide +kernel
theorem dX5_isShortBefore_20 : decode cX5_isShortBefore 20 = .ok (.invokevirtual 64, 3) := by decide +kernel
theorem dX5_isShortBefore_23 : decode cX5_isShortBefore 23 = .ok (.if_icmp .le 7, 3) := by decide +kernel
theorem dX5_isShortBefore_26 : decode cX5_isShortBefore 26 = .ok (.iconst 1, 1) := by decide +kernel
theorem dX5_isShortBefore_27 : decode cX5_isShortBefore 27 = .ok (.goto 4, 3) := by decide +kernel
theorem dX5_isShortBefore_30 : decode cX5_isShortBefore 30 = .ok (.iconst 0, 1) := by decide +kernel
theorem dX5_isShortBefore_31 : decode cX5_isShortBefore 31 = .ok (.ireturn, 1) := by decide +kernel
theorem dX5_isShortBefore_32 : decode cX5_isShortBefore 32 = .ok (.aload_n 0, 1) := by decide +kernel
theorem dX5_isShortBefore_33 : decode cX5_isShortBefore 33 = .ok (.iload_n 1, 1) := by decide +kernel
theorem dX5_isShortBefore_34 : decode cX5_isShortBefore 34 = .ok (.invokevirtual 43, 3) := by decide +kernel
theorem dX5_isShortBefore_37 : decode cX5_isShortBefore 37 = .ok (.aload_n 0, 1) := by decide +kernel
theorem dX5_isShortBefore_38 : decode cX5_isShortBefore 38 = .ok (.iload_n 2, 1) := by decide +kernel
theorem dX5_isShortBefore_39 : decode cX5_isShortBefore 39 = .ok (.invokevirtual 43, 3) := by decide +kernel
theorem dX5_isShortBefore_42 : decode cX5_isShortBefore 42 = .ok (.if_icmp .eq 24, 3) := by decide +kernel
theorem dX5_isShortBefore_45 : decode cX5_isShortBefore 45 = .ok (.aload_n 0, 1) := by decide +kernel
theorem dX5_isShortBefore_46 : decode cX5_isShortBefore 46 = .ok (.iload_n 1, 1) := by decide +kernel
theorem dX5_isShortBefore_47 : decode cX5_isShortBefore 47 = .ok (.invokevirtual 43, 3) := by decide +kernel
theorem dX5_isShortBefore_50 : decode cX5_isShortBefore 50 = .ok (.aload_n 0, 1) := by decide +kernel
theorem dX5_isShortBefore_51 : decode cX5_isShortBefore 51 = .ok (.iload_n 2, 1) := by decide +kernel
theorem dX5_isShortBefore_52 : decode cX5_isShortBefore 52 = .ok (.invokevirtual 43, 3) := by decide +kernel
theorem dX5_isShortBefore_55 : decode cX5_isShortBefore 55 = .ok (.if_icmp .ge 7, 3) := by decide +kernel
theorem dX5_isShortBefore_58 : decode cX5_isShortBefore 58 = .ok (.iconst 1, 1) := by decide +kernel
theorem dX5_isShortBefore_59 : decode cX5_isShortBefore 59 = .ok (.goto 17, 3) := by decide +kernel
theorem dX5_isShortBefore_62 : decode cX5_isShortBefore 62 = .ok (.iconst 0, 1) := by decide +kernel
theorem dX5_isShortBefore_63 : decode cX5_isShortBefore 63 = .ok (.goto 13, 3) := by decide +kernel
theorem dX5_isShortBefore_66 : decode cX5_isShortBefore 66 = .ok (.iload_n 1, 1) := by decide +kernel
theorem dX5_isShortBefore_67 : decode cX5_isShortBefore 67 = .ok (.iload_n 2, 1) := by decide +kernel
theorem dX5_isShortBefore_68 : decode cX5_isShortBefore 68 = .ok (.if_icmp .ge 7, 3) := by decide +kernel
theorem dX5_isShortBefore_71 : decode cX5_isShortBefore 71 = .ok (.iconst 1, 1) := by decide +kernel
theorem dX5_isShortBefore_72 : decode cX5_isShortBefore 72 = .ok (.goto 4, 3) := by decide +kernel
theorem dX5_isShortBefore_75 : decode cX5_isShortBefore 75 = .ok (.iconst 0, 1) := by decide +kernel
theorem dX5_isShortBefore_76 : decode cX5_isShortBefore 76 = .ok (.ireturn, 1) := by decide +kernel
theorem dX5_isShortOn_0 : decode cX5_isShortOn 0 = .ok (.aload_n 0, 1) := by decide +kernel
theorem dX5_isShortOn_1 : decode cX5_isShortOn 1 = .ok (.iload_n 1, 1) := by decide +kernel
theorem dX5_isShortOn_2 : decode cX5_isShortOn 2 = .ok (.invokevirtual 73, 3) := by decide +kernel
theorem dX5_isShortOn_5 : decode cX5_isShortOn 5 = .ok (.ifCond .ne 16, 3) := by decide +kernel
theorem dX5_isShortOn_8 : decode cX5_isShortOn 8 = .ok (.aload_n 0, 1) := by decide +kernel
theorem dX5_isShortOn_9 : decode cX5_isShortOn 9 = .ok (.iload_n 1, 1) := by decide +kernel
theorem dX5_isShortOn_10 : decode cX5_isShortOn 10 = .ok (.invokevirtual 40, 3) := by decide +kernel
theorem dX5_isShortOn_13 : decode cX5_isShortOn 13 = .ok (.iload_n 2, 1) := by decide +kernel
theorem dX5_isShortOn_14 : decode cX5_isShortOn 14 = .ok (.if_icmp .ne 7, 3) := by decide +kernel
theorem dX5_isShortOn_17 : decode cX5_isShortOn 17 = .ok (.iconst 1, 1) := by decide +kernel
theorem dX5_isShortOn_18 : decode cX5_isShortOn 18 = .ok (.goto 4, 3) := by decide +kernel
theorem dX5_isShortOn_21 : decode cX5_isShortOn 21 = .ok (.iconst 0, 1) := by decide +kernel
theorem dX5_isShortOn_22 : decode cX5_isShortOn 22 = .ok (.ireturn, 1) := by decide +kernel
theorem dX5_isTaken_0 : decode cX5_isTaken 0 = .ok (.iconst 0, 1) := by decide +kernel
theorem dX5_isTaken_1 : decode cX5_isTaken 1 = .ok (.istore_n 3, 1) := by decide +kernel
theorem dX5_isTaken_2 : decode cX5_isTaken 2 = .ok (.iconst 0, 1) := by decide +kernel
theorem dX5_isTaken_3 : decode cX5_isTaken 3 = .ok (.istore 4, 2) := by decide +kernel
theorem dX5_isTaken_5 : decode cX5_isTaken 5 = .ok (.iload 4, 2) := by decide +kernel
theorem dX5_isTaken_7 : decode cX5_isTaken 7 = .ok (.aload_n 0, 1) := by decide +kernel
theorem dX5_isTaken_8 : decode cX5_isTaken 8 = .ok (.getfield 7, 3) := by decide +kernel
theorem dX5_isTaken_11 : decode cX5_isTaken 11 = .ok (.iconst 4, 1) := by decide +kernel
theorem dX5_isTaken_12 : decode cX5_isTaken 12 = .ok (.iaload, 1) := by decide +kernel
theorem dX5_isTaken_13 : decode cX5_isTaken 13 = .ok (.if_icmp .ge 40, 3) := by decide +kernel
theorem dX5_isTaken_16 : decode cX5_isTaken 16 = .ok (.iload_n 3, 1) := by decide +kernel
theorem dX5_isTaken_17 : decode cX5_isTaken 17 = .ok (.ifCond .ne 24, 3) := by decide +kernel
theorem dX5_isTaken_20 : decode cX5_isTaken 20 = .ok (.aload_n 0, 1) := by decide +kernel
theorem dX5_isTaken_21 : decode cX5_isTaken 21 = .ok (.iload 4, 2) := by decide +kernel
theorem dX5_isTaken_23 : decode cX5_isTaken 23 = .ok (.iload_n 1, 1) := by decide +kernel
theorem dX5_isTaken_24 : decode cX5_isTaken 24 = .ok (.invokevirtual 86, 3) := by decide +kernel
theorem dX5_isTaken_27 : decode cX5_isTaken 27 = .ok (.ifCond .eq 18, 3) := by decide +kernel
theorem dX5_isTaken_30 : decode cX5_isTaken 30 = .ok (.aload_n 0, 1) := by decide +kernel
theorem dX5_isTaken_31 : decode cX5_isTaken 31 = .ok (.iload 4, 2) := by decide +kernel
theorem dX5_isTaken_33 : decode cX5_isTaken 33 = .ok (.iload_n 1, 1) := by decide +kernel
theorem dX5_isTaken_34 : decode cX5_isTaken 34 = .ok (.invokevirtual 89, 3) := by decide +kernel
theorem dX5_isTaken_37 : decode cX5_isTaken 37 = .ok (.iload_n 2, 1) := by decide +kernel
theorem dX5_isTaken_38 : decode cX5_isTaken 38 = .ok (.if_icmp .ne 7, 3) := by decide +kernel
theorem dX5_isTaken_41 : decode cX5_isTaken 41 = .ok (.iconst 1, 1) := by decide +kernel
theorem dX5_isTaken_42 : decode cX5_isTaken 42 = .ok (.goto 4, 3) := by decide +kernel
theorem dX5_isTaken_45 : decode cX5_isTaken 45 = .ok (.iconst 0, 1) := by decide +kernel
theorem dX5_isTaken_46 : decode cX5_isTaken 46 = .ok (.istore_n 3, 1) := by decide +kernel
theorem dX5_isTaken_47 : decode cX5_isTaken 47 = .ok (.iinc 4 1, 3) := by decide +kernel
theorem dX5_isTaken_50 : decode cX5_isTaken 50 = .ok (.goto (-45), 3) := by decide +kernel
theorem dX5_isTaken_53 : decode cX5_isTaken 53 = .ok (.iload_n 3, 1) := by decide +kernel
theorem dX5_isTaken_54 : decode cX5_isTaken 54 = .ok (.ireturn, 1) := by decide +kernel
theorem dX5_rowAt_0 : decode cX5_rowAt 0 = .ok (.aload_n 0, 1) := by decide +kernel
theorem dX5_rowAt_1 : decode cX5_rowAt 1 = .ok (.iload_n 1, 1) := by decide +kernel
theorem dX5_rowAt_2 : decode cX5_rowAt 2 = .ok (.invokevirtual 73, 3) := by decide +kernel
theorem dX5_rowAt_5 : decode cX5_rowAt 5 = .ok (.ifCond .eq 21, 3) := by decide +kernel
theorem dX5_rowAt_8 : decode cX5_rowAt 8 = .ok (.aload_n 0, 1) := by decide +kernel
theorem dX5_rowAt_9 : decode cX5_rowAt 9 = .ok (.getfield 16, 3) := by decide +kernel
theorem dX5_rowAt_12 : decode cX5_rowAt 12 = .ok (.bipush 7, 2) := by decide +kernel
theorem dX5_rowAt_14 : decode cX5_rowAt 14 = .ok (.iload_n 1, 1) := by decide +kernel
theorem dX5_rowAt_15 : decode cX5_rowAt 15 = .ok (.imul, 1) := by decide +kernel
theorem dX5_rowAt_16 : decode cX5_rowAt 16 = .ok (.aload_n 0, 1) := by decide +kernel
theorem dX5_rowAt_17 : decode cX5_rowAt 17 = .ok (.iload_n 2, 1) := by decide +kernel
theorem dX5_rowAt_18 : decode cX5_rowAt 18 = .ok (.invokevirtual 93, 3) := by decide +kernel
theorem dX5_rowAt_21 : decode cX5_rowAt 21 = .ok (.iadd, 1) := by decide +kernel
theorem dX5_rowAt_22 : decode cX5_rowAt 22 = .ok (.iaload, 1) := by decide +kernel
theorem dX5_rowAt_23 : decode cX5_rowAt 23 = .ok (.goto 9, 3) := by decide +kernel
theorem dX5_rowAt_26 : decode cX5_rowAt 26 = .ok (.aload_n 0, 1) := by decide +kernel
theorem dX5_rowAt_27 : decode cX5_rowAt 27 = .ok (.getfield 19, 3) := by decide +kernel
theorem dX5_rowAt_30 : decode cX5_rowAt 30 = .ok (.iload_n 1, 1) := by decide +kernel
theorem dX5_rowAt_31 : decode cX5_rowAt 31 = .ok (.iaload, 1) := by decide +kernel
theorem dX5_rowAt_32 : decode cX5_rowAt 32 = .ok (.ireturn, 1) := by decide +kernel
theorem dX5_laysDay_0 : decode cX5_laysDay 0 = .ok (.iconst 1, 1) := by decide +kernel
theorem dX5_laysDay_1 : decode cX5_laysDay 1 = .ok (.istore_n 2, 1) := by decide +kernel
theorem dX5_laysDay_2 : decode cX5_laysDay 2 = .ok (.iload_n 2, 1) := by decide +kernel
theorem dX5_laysDay_3 : decode cX5_laysDay 3 = .ok (.ifCond .eq 129, 3) := by decide +kernel
theorem dX5_laysDay_6 : decode cX5_laysDay 6 = .ok (.bipush (-9), 2) := by decide +kernel
theorem dX5_laysDay_8 : decode cX5_laysDay 8 = .ok (.istore_n 3, 1) := by decide +kernel
theorem dX5_laysDay_9 : decode cX5_laysDay 9 = .ok (.iconst 0, 1) := by decide +kernel
theorem dX5_laysDay_10 : decode cX5_laysDay 10 = .ok (.istore 4, 2) := by decide +kernel
theorem dX5_laysDay_12 : decode cX5_laysDay 12 = .ok (.iload 4, 2) := by decide +kernel
theorem dX5_laysDay_14 : decode cX5_laysDay 14 = .ok (.aload_n 0, 1) := by decide +kernel
theorem dX5_laysDay_15 : decode cX5_laysDay 15 = .ok (.getfield 7, 3) := by decide +kernel
theorem dX5_laysDay_18 : decode cX5_laysDay 18 = .ok (.iconst 4, 1) := by decide +kernel
theorem dX5_laysDay_19 : decode cX5_laysDay 19 = .ok (.iaload, 1) := by decide +kernel
theorem dX5_laysDay_20 : decode cX5_laysDay 20 = .ok (.if_icmp .ge 66, 3) := by decide +kernel
theorem dX5_laysDay_23 : decode cX5_laysDay 23 = .ok (.aload_n 0, 1) := by decide +kernel
theorem dX5_laysDay_24 : decode cX5_laysDay 24 = .ok (.iload 4, 2) := by decide +kernel
theorem dX5_laysDay_26 : decode cX5_laysDay 26 = .ok (.iload_n 1, 1) := by decide +kernel
theorem dX5_laysDay_27 : decode cX5_laysDay 27 = .ok (.invokevirtual 96, 3) := by decide +kernel
theorem dX5_laysDay_30 : decode cX5_laysDay 30 = .ok (.ifCond .eq 19, 3) := by decide +kernel
theorem dX5_laysDay_33 : decode cX5_laysDay 33 = .ok (.aload_n 0, 1) := by decide +kernel
theorem dX5_laysDay_34 : decode cX5_laysDay 34 = .ok (.getfield 19, 3) := by decide +kernel
theorem dX5_laysDay_37 : decode cX5_laysDay 37 = .ok (.iload 4, 2) := by decide +kernel
theorem dX5_laysDay_39 : decode cX5_laysDay 39 = .ok (.iaload, 1) := by decide +kernel
theorem dX5_laysDay_40 : decode cX5_laysDay 40 = .ok (.bipush (-9), 2) := by decide +kernel
theorem dX5_laysDay_42 : decode cX5_laysDay 42 = .ok (.if_icmp .ne 7, 3) := by decide +kernel
theorem dX5_laysDay_45 : decode cX5_laysDay 45 = .ok (.iconst 1, 1) := by decide +kernel
theorem dX5_laysDay_46 : decode cX5_laysDay 46 = .ok (.goto 4, 3) := by decide +kernel
theorem dX5_laysDay_49 : decode cX5_laysDay 49 = .ok (.iconst 0, 1) := by decide +kernel
theorem dX5_laysDay_50 : decode cX5_laysDay 50 = .ok (.istore 5, 2) := by decide +kernel
theorem dX5_laysDay_52 : decode cX5_laysDay 52 = .ok (.iload 5, 2) := by decide +kernel
theorem dX5_laysDay_54 : decode cX5_laysDay 54 = .ok (.ifCond .eq 24, 3) := by decide +kernel
theorem dX5_laysDay_57 : decode cX5_laysDay 57 = .ok (.iload_n 3, 1) := by decide +kernel
theorem dX5_laysDay_58 : decode cX5_laysDay 58 = .ok (.bipush (-9), 2) := by decide +kernel
theorem dX5_laysDay_60 : decode cX5_laysDay 60 = .ok (.if_icmp .eq 13, 3) := by decide +kernel
theorem dX5_laysDay_63 : decode cX5_laysDay 63 = .ok (.aload_n 0, 1) := by decide +kernel
theorem dX5_laysDay_64 : decode cX5_laysDay 64 = .ok (.iload 4, 2) := by decide +kernel
theorem dX5_laysDay_66 : decode cX5_laysDay 66 = .ok (.iload_n 3, 1) := by decide +kernel
theorem dX5_laysDay_67 : decode cX5_laysDay 67 = .ok (.invokevirtual 99, 3) := by decide +kernel
theorem dX5_laysDay_70 : decode cX5_laysDay 70 = .ok (.ifCond .eq 8, 3) := by decide +kernel
theorem dX5_laysDay_73 : decode cX5_laysDay 73 = .ok (.iload 4, 2) := by decide +kernel
theorem dX5_laysDay_75 : decode cX5_laysDay 75 = .ok (.goto 4, 3) := by decide +kernel
theorem dX5_laysDay_78 : decode cX5_laysDay 78 = .ok (.iload_n 3, 1) := by decide +kernel
theorem dX5_laysDay_79 : decode cX5_laysDay 79 = .ok (.istore_n 3, 1) := by decide +kernel
theorem dX5_laysDay_80 : decode cX5_laysDay 80 = .ok (.iinc 4 1, 3) := by decide +kernel
theorem dX5_laysDay_83 : decode cX5_laysDay 83 = .ok (.goto (-71), 3) := by decide +kernel
theorem dX5_laysDay_86 : decode cX5_laysDay 86 = .ok (.iload_n 3, 1) := by decide +kernel
theorem dX5_laysDay_87 : decode cX5_laysDay 87 = .ok (.bipush (-9), 2) := by decide +kernel
theorem dX5_laysDay_89 : decode cX5_laysDay 89 = .ok (.if_icmp .eq 7, 3) := by decide +kernel
theorem dX5_laysDay_92 : decode cX5_laysDay 92 = .ok (.iconst 1, 1) := by decide +kernel
theorem dX5_laysDay_93 : decode cX5_laysDay 93 = .ok (.goto 4, 3) := by decide +kernel
theorem dX5_laysDay_96 : decode cX5_laysDay 96 = .ok (.iconst 0, 1) := by decide +kernel
theorem dX5_laysDay_97 : decode cX5_laysDay 97 = .ok (.istore_n 2, 1) := by decide +kernel
theorem dX5_laysDay_98 : decode cX5_laysDay 98 = .ok (.iload_n 2, 1) := by decide +kernel
theorem dX5_laysDay_99 : decode cX5_laysDay 99 = .ok (.ifCond .eq 30, 3) := by decide +kernel
theorem dX5_laysDay_102 : decode cX5_laysDay 102 = .ok (.iconst 0, 1) := by decide +kernel
theorem dX5_laysDay_103 : decode cX5_laysDay 103 = .ok (.istore 4, 2) := by decide +kernel
theorem dX5_laysDay_105 : decode cX5_laysDay 105 = .ok (.aload_n 0, 1) := by decide +kernel
theorem dX5_laysDay_106 : decode cX5_laysDay 106 = .ok (.iload_n 1, 1) := by decide +kernel
theorem dX5_laysDay_107 : decode cX5_laysDay 107 = .ok (.iload 4, 2) := by decide +kernel
theorem dX5_laysDay_109 : decode cX5_laysDay 109 = .ok (.invokevirtual 102, 3) := by decide +kernel
theorem dX5_laysDay_112 : decode cX5_laysDay 112 = .ok (.ifCond .eq 9, 3) := by decide +kernel
theorem dX5_laysDay_115 : decode cX5_laysDay 115 = .ok (.iinc 4 1, 3) := by decide +kernel
theorem dX5_laysDay_118 : decode cX5_laysDay 118 = .ok (.goto (-13), 3) := by decide +kernel
theorem dX5_laysDay_121 : decode cX5_laysDay 121 = .ok (.aload_n 0, 1) := by decide +kernel
theorem dX5_laysDay_122 : decode cX5_laysDay 122 = .ok (.getfield 19, 3) := by decide +kernel
theorem dX5_laysDay_125 : decode cX5_laysDay 125 = .ok (.iload_n 3, 1) := by decide +kernel
theorem dX5_laysDay_126 : decode cX5_laysDay 126 = .ok (.iload 4, 2) := by decide +kernel
theorem dX5_laysDay_128 : decode cX5_laysDay 128 = .ok (.iastore, 1) := by decide +kernel
theorem dX5_laysDay_129 : decode cX5_laysDay 129 = .ok (.goto (-127), 3) := by decide +kernel
theorem dX5_laysDay_132 : decode cX5_laysDay 132 = .ok (.return_, 1) := by decide +kernel
theorem dX5_lays_0 : decode cX5_lays 0 = .ok (.aload_n 0, 1) := by decide +kernel
theorem dX5_lays_1 : decode cX5_lays 1 = .ok (.invokevirtual 56, 3) := by decide +kernel
theorem dX5_lays_4 : decode cX5_lays 4 = .ok (.istore_n 1, 1) := by decide +kernel
theorem dX5_lays_5 : decode cX5_lays 5 = .ok (.iconst 0, 1) := by decide +kernel
theorem dX5_lays_6 : decode cX5_lays 6 = .ok (.istore_n 2, 1) := by decide +kernel
theorem dX5_lays_7 : decode cX5_lays 7 = .ok (.iload_n 2, 1) := by decide +kernel
theorem dX5_lays_8 : decode cX5_lays 8 = .ok (.iload_n 1, 1) := by decide +kernel
theorem dX5_lays_9 : decode cX5_lays 9 = .ok (.if_icmp .ge 20, 3) := by decide +kernel
theorem dX5_lays_12 : decode cX5_lays 12 = .ok (.aload_n 0, 1) := by decide +kernel
theorem dX5_lays_13 : decode cX5_lays 13 = .ok (.getfield 22, 3) := by decide +kernel
theorem dX5_lays_16 : decode cX5_lays 16 = .ok (.iload_n 2, 1) := by decide +kernel
theorem dX5_lays_17 : decode cX5_lays 17 = .ok (.aload_n 0, 1) := by decide +kernel
theorem dX5_lays_18 : decode cX5_lays 18 = .ok (.iload_n 2, 1) := by decide +kernel
theorem dX5_lays_19 : decode cX5_lays 19 = .ok (.invokevirtual 105, 3) := by decide +kernel
theorem dX5_lays_22 : decode cX5_lays 22 = .ok (.iastore, 1) := by decide +kernel
theorem dX5_lays_23 : decode cX5_lays 23 = .ok (.iinc 2 1, 3) := by decide +kernel
theorem dX5_lays_26 : decode cX5_lays 26 = .ok (.goto (-19), 3) := by decide +kernel
theorem dX5_lays_29 : decode cX5_lays 29 = .ok (.aload_n 0, 1) := by decide +kernel
theorem dX5_lays_30 : decode cX5_lays 30 = .ok (.getfield 22, 3) := by decide +kernel
theorem dX5_lays_33 : decode cX5_lays 33 = .ok (.iload_n 1, 1) := by decide +kernel
theorem dX5_lays_34 : decode cX5_lays 34 = .ok (.aload_n 0, 1) := by decide +kernel
theorem dX5_lays_35 : decode cX5_lays 35 = .ok (.getfield 7, 3) := by decide +kernel
theorem dX5_lays_38 : decode cX5_lays 38 = .ok (.iconst 1, 1) := by decide +kernel
theorem dX5_lays_39 : decode cX5_lays 39 = .ok (.iaload, 1) := by decide +kernel
theorem dX5_lays_40 : decode cX5_lays 40 = .ok (.iconst 1, 1) := by decide +kernel
theorem dX5_lays_41 : decode cX5_lays 41 = .ok (.iadd, 1) := by decide +kernel
theorem dX5_lays_42 : decode cX5_lays 42 = .ok (.iastore, 1) := by decide +kernel
theorem dX5_lays_43 : decode cX5_lays 43 = .ok (.iconst 0, 1) := by decide +kernel
theorem dX5_lays_44 : decode cX5_lays 44 = .ok (.istore_n 2, 1) := by decide +kernel
theorem dX5_lays_45 : decode cX5_lays 45 = .ok (.iload_n 2, 1) := by decide +kernel
theorem dX5_lays_46 : decode cX5_lays 46 = .ok (.sipush 168, 3) := by decide +kernel
theorem dX5_lays_49 : decode cX5_lays 49 = .ok (.if_icmp .ge 17, 3) := by decide +kernel
theorem dX5_lays_52 : decode cX5_lays 52 = .ok (.aload_n 0, 1) := by decide +kernel
theorem dX5_lays_53 : decode cX5_lays 53 = .ok (.getfield 16, 3) := by decide +kernel
theorem dX5_lays_56 : decode cX5_lays 56 = .ok (.iload_n 2, 1) := by decide +kernel
theorem dX5_lays_57 : decode cX5_lays 57 = .ok (.bipush (-9), 2) := by decide +kernel
theorem dX5_lays_59 : decode cX5_lays 59 = .ok (.iastore, 1) := by decide +kernel
theorem dX5_lays_60 : decode cX5_lays 60 = .ok (.iinc 2 1, 3) := by decide +kernel
theorem dX5_lays_63 : decode cX5_lays 63 = .ok (.goto (-18), 3) := by decide +kernel
theorem dX5_lays_66 : decode cX5_lays 66 = .ok (.iconst 0, 1) := by decide +kernel
theorem dX5_lays_67 : decode cX5_lays 67 = .ok (.istore_n 2, 1) := by decide +kernel
theorem dX5_lays_68 : decode cX5_lays 68 = .ok (.iload_n 2, 1) := by decide +kernel
theorem dX5_lays_69 : decode cX5_lays 69 = .ok (.bipush 24, 2) := by decide +kernel
theorem dX5_lays_71 : decode cX5_lays 71 = .ok (.if_icmp .ge 17, 3) := by decide +kernel
theorem dX5_lays_74 : decode cX5_lays 74 = .ok (.aload_n 0, 1) := by decide +kernel
theorem dX5_lays_75 : decode cX5_lays 75 = .ok (.getfield 19, 3) := by decide +kernel
theorem dX5_lays_78 : decode cX5_lays 78 = .ok (.iload_n 2, 1) := by decide +kernel
theorem dX5_lays_79 : decode cX5_lays 79 = .ok (.bipush (-9), 2) := by decide +kernel
theorem dX5_lays_81 : decode cX5_lays 81 = .ok (.iastore, 1) := by decide +kernel
theorem dX5_lays_82 : decode cX5_lays 82 = .ok (.iinc 2 1, 3) := by decide +kernel
theorem dX5_lays_85 : decode cX5_lays 85 = .ok (.goto (-17), 3) := by decide +kernel
theorem dX5_lays_88 : decode cX5_lays 88 = .ok (.iconst 0, 1) := by decide +kernel
theorem dX5_lays_89 : decode cX5_lays 89 = .ok (.istore_n 2, 1) := by decide +kernel
theorem dX5_lays_90 : decode cX5_lays 90 = .ok (.iload_n 2, 1) := by decide +kernel
theorem dX5_lays_91 : decode cX5_lays 91 = .ok (.iload_n 1, 1) := by decide +kernel
theorem dX5_lays_92 : decode cX5_lays 92 = .ok (.if_icmp .ge 14, 3) := by decide +kernel
theorem dX5_lays_95 : decode cX5_lays 95 = .ok (.aload_n 0, 1) := by decide +kernel
theorem dX5_lays_96 : decode cX5_lays 96 = .ok (.iload_n 2, 1) := by decide +kernel
theorem dX5_lays_97 : decode cX5_lays 97 = .ok (.invokevirtual 108, 3) := by decide +kernel
theorem dX5_lays_100 : decode cX5_lays 100 = .ok (.iinc 2 1, 3) := by decide +kernel
theorem dX5_lays_103 : decode cX5_lays 103 = .ok (.goto (-13), 3) := by decide +kernel
theorem dX5_lays_106 : decode cX5_lays 106 = .ok (.aload_n 0, 1) := by decide +kernel
theorem dX5_lays_107 : decode cX5_lays 107 = .ok (.getfield 7, 3) := by decide +kernel
theorem dX5_lays_110 : decode cX5_lays 110 = .ok (.iconst 0, 1) := by decide +kernel
theorem dX5_lays_111 : decode cX5_lays 111 = .ok (.iaload, 1) := by decide +kernel
theorem dX5_lays_112 : decode cX5_lays 112 = .ok (.istore_n 2, 1) := by decide +kernel
theorem dX5_lays_113 : decode cX5_lays 113 = .ok (.iload_n 2, 1) := by decide +kernel
theorem dX5_lays_114 : decode cX5_lays 114 = .ok (.aload_n 0, 1) := by decide +kernel
theorem dX5_lays_115 : decode cX5_lays 115 = .ok (.getfield 7, 3) := by decide +kernel
theorem dX5_lays_118 : decode cX5_lays 118 = .ok (.iconst 1, 1) := by decide +kernel
theorem dX5_lays_119 : decode cX5_lays 119 = .ok (.iaload, 1) := by decide +kernel
theorem dX5_lays_120 : decode cX5_lays 120 = .ok (.if_icmp .gt 14, 3) := by decide +kernel
theorem dX5_lays_123 : decode cX5_lays 123 = .ok (.aload_n 0, 1) := by decide +kernel
theorem dX5_lays_124 : decode cX5_lays 124 = .ok (.iload_n 2, 1) := by decide +kernel
theorem dX5_lays_125 : decode cX5_lays 125 = .ok (.invokevirtual 112, 3) := by decide +kernel
theorem dX5_lays_128 : decode cX5_lays 128 = .ok (.iinc 2 1, 3) := by decide +kernel
theorem dX5_lays_131 : decode cX5_lays 131 = .ok (.goto (-18), 3) := by decide +kernel
theorem dX5_lays_134 : decode cX5_lays 134 = .ok (.return_, 1) := by decide +kernel
theorem dX5_needed_0 : decode cX5_needed 0 = .ok (.iconst 0, 1) := by decide +kernel
theorem dX5_needed_1 : decode cX5_needed 1 = .ok (.istore_n 2, 1) := by decide +kernel
theorem dX5_needed_2 : decode cX5_needed 2 = .ok (.iconst 0, 1) := by decide +kernel
theorem dX5_needed_3 : decode cX5_needed 3 = .ok (.istore_n 3, 1) := by decide +kernel
theorem dX5_needed_4 : decode cX5_needed 4 = .ok (.iload_n 3, 1) := by decide +kernel
theorem dX5_needed_5 : decode cX5_needed 5 = .ok (.aload_n 0, 1) := by decide +kernel
theorem dX5_needed_6 : decode cX5_needed 6 = .ok (.getfield 7, 3) := by decide +kernel
theorem dX5_needed_9 : decode cX5_needed 9 = .ok (.iconst 4, 1) := by decide +kernel
theorem dX5_needed_10 : decode cX5_needed 10 = .ok (.iaload, 1) := by decide +kernel
theorem dX5_needed_11 : decode cX5_needed 11 = .ok (.if_icmp .ge 46, 3) := by decide +kernel
theorem dX5_needed_14 : decode cX5_needed 14 = .ok (.aload_n 0, 1) := by decide +kernel
theorem dX5_needed_15 : decode cX5_needed 15 = .ok (.iload_n 3, 1) := by decide +kernel
theorem dX5_needed_16 : decode cX5_needed 16 = .ok (.iload_n 1, 1) := by decide +kernel
theorem dX5_needed_17 : decode cX5_needed 17 = .ok (.invokevirtual 86, 3) := by decide +kernel
theorem dX5_needed_20 : decode cX5_needed 20 = .ok (.ifCond .eq 12, 3) := by decide +kernel
theorem dX5_needed_23 : decode cX5_needed 23 = .ok (.aload_n 0, 1) := by decide +kernel
theorem dX5_needed_24 : decode cX5_needed 24 = .ok (.iload_n 3, 1) := by decide +kernel
theorem dX5_needed_25 : decode cX5_needed 25 = .ok (.iload_n 1, 1) := by decide +kernel
theorem dX5_needed_26 : decode cX5_needed 26 = .ok (.invokevirtual 89, 3) := by decide +kernel
theorem dX5_needed_29 : decode cX5_needed 29 = .ok (.goto 5, 3) := by decide +kernel
theorem dX5_needed_32 : decode cX5_needed 32 = .ok (.bipush (-9), 2) := by decide +kernel
theorem dX5_needed_34 : decode cX5_needed 34 = .ok (.istore 4, 2) := by decide +kernel
theorem dX5_needed_36 : decode cX5_needed 36 = .ok (.iload 4, 2) := by decide +kernel
theorem dX5_needed_38 : decode cX5_needed 38 = .ok (.iload_n 2, 1) := by decide +kernel
theorem dX5_needed_39 : decode cX5_needed 39 = .ok (.if_icmp .lt 10, 3) := by decide +kernel
theorem dX5_needed_42 : decode cX5_needed 42 = .ok (.iload 4, 2) := by decide +kernel
theorem dX5_needed_44 : decode cX5_needed 44 = .ok (.iconst 1, 1) := by decide +kernel
theorem dX5_needed_45 : decode cX5_needed 45 = .ok (.iadd, 1) := by decide +kernel
theorem dX5_needed_46 : decode cX5_needed 46 = .ok (.goto 4, 3) := by decide +kernel
theorem dX5_needed_49 : decode cX5_needed 49 = .ok (.iload_n 2, 1) := by decide +kernel
theorem dX5_needed_50 : decode cX5_needed 50 = .ok (.istore_n 2, 1) := by decide +kernel
theorem dX5_needed_51 : decode cX5_needed 51 = .ok (.iinc 3 1, 3) := by decide +kernel
theorem dX5_needed_54 : decode cX5_needed 54 = .ok (.goto (-50), 3) := by decide +kernel
theorem dX5_needed_57 : decode cX5_needed 57 = .ok (.iload_n 2, 1) := by decide +kernel
theorem dX5_needed_58 : decode cX5_needed 58 = .ok (.ireturn, 1) := by decide +kernel
theorem dX5_markOf_0 : decode cX5_markOf 0 = .ok (.aload_n 0, 1) := by decide +kernel
theorem dX5_markOf_1 : decode cX5_markOf 1 = .ok (.iload_n 1, 1) := by decide +kernel
theorem dX5_markOf_2 : decode cX5_markOf 2 = .ok (.invokevirtual 115, 3) := by decide +kernel
theorem dX5_markOf_5 : decode cX5_markOf 5 = .ok (.istore_n 3, 1) := by decide +kernel
theorem dX5_markOf_6 : decode cX5_markOf 6 = .ok (.iload_n 3, 1) := by decide +kernel
theorem dX5_markOf_7 : decode cX5_markOf 7 = .ok (.iload_n 2, 1) := by decide +kernel
theorem dX5_markOf_8 : decode cX5_markOf 8 = .ok (.if_icmp .gt 7, 3) := by decide +kernel
theorem dX5_markOf_11 : decode cX5_markOf 11 = .ok (.iload_n 3, 1) := by decide +kernel
theorem dX5_markOf_12 : decode cX5_markOf 12 = .ok (.goto 6, 3) := by decide +kernel
theorem dX5_markOf_15 : decode cX5_markOf 15 = .ok (.iload_n 2, 1) := by decide +kernel
theorem dX5_markOf_16 : decode cX5_markOf 16 = .ok (.iconst 1, 1) := by decide +kernel
theorem dX5_markOf_17 : decode cX5_markOf 17 = .ok (.isub, 1) := by decide +kernel
theorem dX5_markOf_18 : decode cX5_markOf 18 = .ok (.ireturn, 1) := by decide +kernel
theorem dX5_hiddenOn_0 : decode cX5_hiddenOn 0 = .ok (.aload_n 0, 1) := by decide +kernel
theorem dX5_hiddenOn_1 : decode cX5_hiddenOn 1 = .ok (.iload_n 1, 1) := by decide +kernel
theorem dX5_hiddenOn_2 : decode cX5_hiddenOn 2 = .ok (.iload_n 2, 1) := by decide +kernel
theorem dX5_hiddenOn_3 : decode cX5_hiddenOn 3 = .ok (.invokevirtual 118, 3) := by decide +kernel
theorem dX5_hiddenOn_6 : decode cX5_hiddenOn 6 = .ok (.istore_n 3, 1) := by decide +kernel
theorem dX5_hiddenOn_7 : decode cX5_hiddenOn 7 = .ok (.iconst 0, 1) := by decide +kernel
theorem dX5_hiddenOn_8 : decode cX5_hiddenOn 8 = .ok (.istore 4, 2) := by decide +kernel
theorem dX5_hiddenOn_10 : decode cX5_hiddenOn 10 = .ok (.iconst 0, 1) := by decide +kernel
theorem dX5_hiddenOn_11 : decode cX5_hiddenOn 11 = .ok (.istore 5, 2) := by decide +kernel
theorem dX5_hiddenOn_13 : decode cX5_hiddenOn 13 = .ok (.iload 5, 2) := by decide +kernel
theorem dX5_hiddenOn_15 : decode cX5_hiddenOn 15 = .ok (.aload_n 0, 1) := by decide +kernel
theorem dX5_hiddenOn_16 : decode cX5_hiddenOn 16 = .ok (.getfield 7, 3) := by decide +kernel
theorem dX5_hiddenOn_19 : decode cX5_hiddenOn 19 = .ok (.iconst 4, 1) := by decide +kernel
theorem dX5_hiddenOn_20 : decode cX5_hiddenOn 20 = .ok (.iaload, 1) := by decide +kernel
theorem dX5_hiddenOn_21 : decode cX5_hiddenOn 21 = .ok (.if_icmp .ge 40, 3) := by decide +kernel
theorem dX5_hiddenOn_24 : decode cX5_hiddenOn 24 = .ok (.iload 4, 2) := by decide +kernel
theorem dX5_hiddenOn_26 : decode cX5_hiddenOn 26 = .ok (.aload_n 0, 1) := by decide +kernel
theorem dX5_hiddenOn_27 : decode cX5_hiddenOn 27 = .ok (.iload 5, 2) := by decide +kernel
theorem dX5_hiddenOn_29 : decode cX5_hiddenOn 29 = .ok (.iload_n 1, 1) := by decide +kernel
theorem dX5_hiddenOn_30 : decode cX5_hiddenOn 30 = .ok (.invokevirtual 86, 3) := by decide +kernel
theorem dX5_hiddenOn_33 : decode cX5_hiddenOn 33 = .ok (.ifCond .eq 18, 3) := by decide +kernel
theorem dX5_hiddenOn_36 : decode cX5_hiddenOn 36 = .ok (.aload_n 0, 1) := by decide +kernel
theorem dX5_hiddenOn_37 : decode cX5_hiddenOn 37 = .ok (.iload 5, 2) := by decide +kernel
theorem dX5_hiddenOn_39 : decode cX5_hiddenOn 39 = .ok (.iload_n 1, 1) := by decide +kernel
theorem dX5_hiddenOn_40 : decode cX5_hiddenOn 40 = .ok (.invokevirtual 89, 3) := by decide +kernel
theorem dX5_hiddenOn_43 : decode cX5_hiddenOn 43 = .ok (.iload_n 3, 1) := by decide +kernel
theorem dX5_hiddenOn_44 : decode cX5_hiddenOn 44 = .ok (.if_icmp .lt 7, 3) := by decide +kernel
theorem dX5_hiddenOn_47 : decode cX5_hiddenOn 47 = .ok (.iconst 1, 1) := by decide +kernel
theorem dX5_hiddenOn_48 : decode cX5_hiddenOn 48 = .ok (.goto 4, 3) := by decide +kernel
theorem dX5_hiddenOn_51 : decode cX5_hiddenOn 51 = .ok (.iconst 0, 1) := by decide +kernel
theorem dX5_hiddenOn_52 : decode cX5_hiddenOn 52 = .ok (.iadd, 1) := by decide +kernel
theorem dX5_hiddenOn_53 : decode cX5_hiddenOn 53 = .ok (.istore 4, 2) := by decide +kernel
theorem dX5_hiddenOn_55 : decode cX5_hiddenOn 55 = .ok (.iinc 5 1, 3) := by decide +kernel
theorem dX5_hiddenOn_58 : decode cX5_hiddenOn 58 = .ok (.goto (-45), 3) := by decide +kernel
theorem dX5_hiddenOn_61 : decode cX5_hiddenOn 61 = .ok (.iload 4, 2) := by decide +kernel
theorem dX5_hiddenOn_63 : decode cX5_hiddenOn 63 = .ok (.ireturn, 1) := by decide +kernel
theorem dX5_hidden_0 : decode cX5_hidden 0 = .ok (.iconst 0, 1) := by decide +kernel
theorem dX5_hidden_1 : decode cX5_hidden 1 = .ok (.istore 4, 2) := by decide +kernel
theorem dX5_hidden_3 : decode cX5_hidden 3 = .ok (.iload_n 1, 1) := by decide +kernel
theorem dX5_hidden_4 : decode cX5_hidden 4 = .ok (.istore 5, 2) := by decide +kernel
theorem dX5_hidden_6 : decode cX5_hidden 6 = .ok (.iload 5, 2) := by decide +kernel
theorem dX5_hidden_8 : decode cX5_hidden 8 = .ok (.iload_n 2, 1) := by decide +kernel
theorem dX5_hidden_9 : decode cX5_hidden 9 = .ok (.if_icmp .gt 21, 3) := by decide +kernel
theorem dX5_hidden_12 : decode cX5_hidden 12 = .ok (.iload 4, 2) := by decide +kernel
theorem dX5_hidden_14 : decode cX5_hidden 14 = .ok (.aload_n 0, 1) := by decide +kernel
theorem dX5_hidden_15 : decode cX5_hidden 15 = .ok (.iload 5, 2) := by decide +kernel
theorem dX5_hidden_17 : decode cX5_hidden 17 = .ok (.iload_n 3, 1) := by decide +kernel
theorem dX5_hidden_18 : decode cX5_hidden 18 = .ok (.invokevirtual 121, 3) := by decide +kernel
theorem dX5_hidden_21 : decode cX5_hidden 21 = .ok (.iadd, 1) := by decide +kernel
theorem dX5_hidden_22 : decode cX5_hidden 22 = .ok (.istore 4, 2) := by decide +kernel
theorem dX5_hidden_24 : decode cX5_hidden 24 = .ok (.iinc 5 1, 3) := by decide +kernel
theorem dX5_hidden_27 : decode cX5_hidden 27 = .ok (.goto (-21), 3) := by decide +kernel
theorem dX5_hidden_30 : decode cX5_hidden 30 = .ok (.iload 4, 2) := by decide +kernel
theorem dX5_hidden_32 : decode cX5_hidden 32 = .ok (.ireturn, 1) := by decide +kernel
theorem dX5_barsIn_0 : decode cX5_barsIn 0 = .ok (.iconst 0, 1) := by decide +kernel
theorem dX5_barsIn_1 : decode cX5_barsIn 1 = .ok (.istore_n 2, 1) := by decide +kernel
theorem dX5_barsIn_2 : decode cX5_barsIn 2 = .ok (.iconst 0, 1) := by decide +kernel
theorem dX5_barsIn_3 : decode cX5_barsIn 3 = .ok (.istore_n 3, 1) := by decide +kernel
theorem dX5_barsIn_4 : decode cX5_barsIn 4 = .ok (.iload_n 3, 1) := by decide +kernel
theorem dX5_barsIn_5 : decode cX5_barsIn 5 = .ok (.aload_n 0, 1) := by decide +kernel
theorem dX5_barsIn_6 : decode cX5_barsIn 6 = .ok (.getfield 7, 3) := by decide +kernel
theorem dX5_barsIn_9 : decode cX5_barsIn 9 = .ok (.iconst 4, 1) := by decide +kernel
theorem dX5_barsIn_10 : decode cX5_barsIn 10 = .ok (.iaload, 1) := by decide +kernel
theorem dX5_barsIn_11 : decode cX5_barsIn 11 = .ok (.if_icmp .ge 33, 3) := by decide +kernel
theorem dX5_barsIn_14 : decode cX5_barsIn 14 = .ok (.iload_n 2, 1) := by decide +kernel
theorem dX5_barsIn_15 : decode cX5_barsIn 15 = .ok (.aload_n 0, 1) := by decide +kernel
theorem dX5_barsIn_16 : decode cX5_barsIn 16 = .ok (.getfield 16, 3) := by decide +kernel
theorem dX5_barsIn_19 : decode cX5_barsIn 19 = .ok (.bipush 7, 2) := by decide +kernel
theorem dX5_barsIn_21 : decode cX5_barsIn 21 = .ok (.iload_n 3, 1) := by decide +kernel
theorem dX5_barsIn_22 : decode cX5_barsIn 22 = .ok (.imul, 1) := by decide +kernel
theorem dX5_barsIn_23 : decode cX5_barsIn 23 = .ok (.iload_n 1, 1) := by decide +kernel
theorem dX5_barsIn_24 : decode cX5_barsIn 24 = .ok (.iadd, 1) := by decide +kernel
theorem dX5_barsIn_25 : decode cX5_barsIn 25 = .ok (.iaload, 1) := by decide +kernel
theorem dX5_barsIn_26 : decode cX5_barsIn 26 = .ok (.bipush (-9), 2) := by decide +kernel
theorem dX5_barsIn_28 : decode cX5_barsIn 28 = .ok (.if_icmp .ne 7, 3) := by decide +kernel
theorem dX5_barsIn_31 : decode cX5_barsIn 31 = .ok (.iconst 0, 1) := by decide +kernel
theorem dX5_barsIn_32 : decode cX5_barsIn 32 = .ok (.goto 4, 3) := by decide +kernel
theorem dX5_barsIn_35 : decode cX5_barsIn 35 = .ok (.iconst 1, 1) := by decide +kernel
theorem dX5_barsIn_36 : decode cX5_barsIn 36 = .ok (.iadd, 1) := by decide +kernel
theorem dX5_barsIn_37 : decode cX5_barsIn 37 = .ok (.istore_n 2, 1) := by decide +kernel
theorem dX5_barsIn_38 : decode cX5_barsIn 38 = .ok (.iinc 3 1, 3) := by decide +kernel
theorem dX5_barsIn_41 : decode cX5_barsIn 41 = .ok (.goto (-37), 3) := by decide +kernel
theorem dX5_barsIn_44 : decode cX5_barsIn 44 = .ok (.iload_n 2, 1) := by decide +kernel
theorem dX5_barsIn_45 : decode cX5_barsIn 45 = .ok (.ireturn, 1) := by decide +kernel
theorem dX5_lanesIn_0 : decode cX5_lanesIn 0 = .ok (.iconst 0, 1) := by decide +kernel
theorem dX5_lanesIn_1 : decode cX5_lanesIn 1 = .ok (.istore_n 2, 1) := by decide +kernel
theorem dX5_lanesIn_2 : decode cX5_lanesIn 2 = .ok (.iconst 0, 1) := by decide +kernel
theorem dX5_lanesIn_3 : decode cX5_lanesIn 3 = .ok (.istore_n 3, 1) := by decide +kernel
theorem dX5_lanesIn_4 : decode cX5_lanesIn 4 = .ok (.iload_n 3, 1) := by decide +kernel
theorem dX5_lanesIn_5 : decode cX5_lanesIn 5 = .ok (.aload_n 0, 1) := by decide +kernel
theorem dX5_lanesIn_6 : decode cX5_lanesIn 6 = .ok (.getfield 7, 3) := by decide +kernel
theorem dX5_lanesIn_9 : decode cX5_lanesIn 9 = .ok (.iconst 4, 1) := by decide +kernel
theorem dX5_lanesIn_10 : decode cX5_lanesIn 10 = .ok (.iaload, 1) := by decide +kernel
theorem dX5_lanesIn_11 : decode cX5_lanesIn 11 = .ok (.if_icmp .ge 42, 3) := by decide +kernel
theorem dX5_lanesIn_14 : decode cX5_lanesIn 14 = .ok (.aload_n 0, 1) := by decide +kernel
theorem dX5_lanesIn_15 : decode cX5_lanesIn 15 = .ok (.getfield 16, 3) := by decide +kernel
theorem dX5_lanesIn_18 : decode cX5_lanesIn 18 = .ok (.bipush 7, 2) := by decide +kernel
theorem dX5_lanesIn_20 : decode cX5_lanesIn 20 = .ok (.iload_n 3, 1) := by decide +kernel
theorem dX5_lanesIn_21 : decode cX5_lanesIn 21 = .ok (.imul, 1) := by decide +kernel
theorem dX5_lanesIn_22 : decode cX5_lanesIn 22 = .ok (.iload_n 1, 1) := by decide +kernel
theorem dX5_lanesIn_23 : decode cX5_lanesIn 23 = .ok (.iadd, 1) := by decide +kernel
theorem dX5_lanesIn_24 : decode cX5_lanesIn 24 = .ok (.iaload, 1) := by decide +kernel
theorem dX5_lanesIn_25 : decode cX5_lanesIn 25 = .ok (.iload_n 2, 1) := by decide +kernel
theorem dX5_lanesIn_26 : decode cX5_lanesIn 26 = .ok (.if_icmp .lt 19, 3) := by decide +kernel
theorem dX5_lanesIn_29 : decode cX5_lanesIn 29 = .ok (.aload_n 0, 1) := by decide +kernel
theorem dX5_lanesIn_30 : decode cX5_lanesIn 30 = .ok (.getfield 16, 3) := by decide +kernel
theorem dX5_lanesIn_33 : decode cX5_lanesIn 33 = .ok (.bipush 7, 2) := by decide +kernel
theorem dX5_lanesIn_35 : decode cX5_lanesIn 35 = .ok (.iload_n 3, 1) := by decide +kernel
theorem dX5_lanesIn_36 : decode cX5_lanesIn 36 = .ok (.imul, 1) := by decide +kernel
theorem dX5_lanesIn_37 : decode cX5_lanesIn 37 = .ok (.iload_n 1, 1) := by decide +kernel
theorem dX5_lanesIn_38 : decode cX5_lanesIn 38 = .ok (.iadd, 1) := by decide +kernel
theorem dX5_lanesIn_39 : decode cX5_lanesIn 39 = .ok (.iaload, 1) := by decide +kernel
theorem dX5_lanesIn_40 : decode cX5_lanesIn 40 = .ok (.iconst 1, 1) := by decide +kernel
theorem dX5_lanesIn_41 : decode cX5_lanesIn 41 = .ok (.iadd, 1) := by decide +kernel
theorem dX5_lanesIn_42 : decode cX5_lanesIn 42 = .ok (.goto 4, 3) := by decide +kernel
theorem dX5_lanesIn_45 : decode cX5_lanesIn 45 = .ok (.iload_n 2, 1) := by decide +kernel
theorem dX5_lanesIn_46 : decode cX5_lanesIn 46 = .ok (.istore_n 2, 1) := by decide +kernel
theorem dX5_lanesIn_47 : decode cX5_lanesIn 47 = .ok (.iinc 3 1, 3) := by decide +kernel
theorem dX5_lanesIn_50 : decode cX5_lanesIn 50 = .ok (.goto (-46), 3) := by decide +kernel
theorem dX5_lanesIn_53 : decode cX5_lanesIn 53 = .ok (.iload_n 2, 1) := by decide +kernel
theorem dX5_lanesIn_54 : decode cX5_lanesIn 54 = .ok (.ireturn, 1) := by decide +kernel
theorem dX5_shortsIn_0 : decode cX5_shortsIn 0 = .ok (.iconst 0, 1) := by decide +kernel
theorem dX5_shortsIn_1 : decode cX5_shortsIn 1 = .ok (.istore_n 3, 1) := by decide +kernel
theorem dX5_shortsIn_2 : decode cX5_shortsIn 2 = .ok (.iconst 0, 1) := by decide +kernel
theorem dX5_shortsIn_3 : decode cX5_shortsIn 3 = .ok (.istore 4, 2) := by decide +kernel
theorem dX5_shortsIn_5 : decode cX5_shortsIn 5 = .ok (.iload 4, 2) := by decide +kernel
theorem dX5_shortsIn_7 : decode cX5_shortsIn 7 = .ok (.aload_n 0, 1) := by decide +kernel
theorem dX5_shortsIn_8 : decode cX5_shortsIn 8 = .ok (.getfield 7, 3) := by decide +kernel
theorem dX5_shortsIn_11 : decode cX5_shortsIn 11 = .ok (.iconst 4, 1) := by decide +kernel
theorem dX5_shortsIn_12 : decode cX5_shortsIn 12 = .ok (.iaload, 1) := by decide +kernel
theorem dX5_shortsIn_13 : decode cX5_shortsIn 13 = .ok (.if_icmp .ge 40, 3) := by decide +kernel
theorem dX5_shortsIn_16 : decode cX5_shortsIn 16 = .ok (.iload_n 3, 1) := by decide +kernel
theorem dX5_shortsIn_17 : decode cX5_shortsIn 17 = .ok (.aload_n 0, 1) := by decide +kernel
theorem dX5_shortsIn_18 : decode cX5_shortsIn 18 = .ok (.iload 4, 2) := by decide +kernel
theorem dX5_shortsIn_20 : decode cX5_shortsIn 20 = .ok (.invokevirtual 73, 3) := by decide +kernel
theorem dX5_shortsIn_23 : decode cX5_shortsIn 23 = .ok (.ifCond .ne 21, 3) := by decide +kernel
theorem dX5_shortsIn_26 : decode cX5_shortsIn 26 = .ok (.aload_n 0, 1) := by decide +kernel
theorem dX5_shortsIn_27 : decode cX5_shortsIn 27 = .ok (.iload 4, 2) := by decide +kernel
theorem dX5_shortsIn_29 : decode cX5_shortsIn 29 = .ok (.invokevirtual 40, 3) := by decide +kernel
theorem dX5_shortsIn_32 : decode cX5_shortsIn 32 = .ok (.iload_n 1, 1) := by decide +kernel
theorem dX5_shortsIn_33 : decode cX5_shortsIn 33 = .ok (.iload_n 2, 1) := by decide +kernel
theorem dX5_shortsIn_34 : decode cX5_shortsIn 34 = .ok (.invokestatic 32, 3) := by decide +kernel
theorem dX5_shortsIn_37 : decode cX5_shortsIn 37 = .ok (.ifCond .eq 7, 3) := by decide +kernel
theorem dX5_shortsIn_40 : decode cX5_shortsIn 40 = .ok (.iconst 1, 1) := by decide +kernel
theorem dX5_shortsIn_41 : decode cX5_shortsIn 41 = .ok (.goto 4, 3) := by decide +kernel
theorem dX5_shortsIn_44 : decode cX5_shortsIn 44 = .ok (.iconst 0, 1) := by decide +kernel
theorem dX5_shortsIn_45 : decode cX5_shortsIn 45 = .ok (.iadd, 1) := by decide +kernel
theorem dX5_shortsIn_46 : decode cX5_shortsIn 46 = .ok (.istore_n 3, 1) := by decide +kernel
theorem dX5_shortsIn_47 : decode cX5_shortsIn 47 = .ok (.iinc 4 1, 3) := by decide +kernel
theorem dX5_shortsIn_50 : decode cX5_shortsIn 50 = .ok (.goto (-45), 3) := by decide +kernel
theorem dX5_shortsIn_53 : decode cX5_shortsIn 53 = .ok (.iload_n 3, 1) := by decide +kernel
theorem dX5_shortsIn_54 : decode cX5_shortsIn 54 = .ok (.ireturn, 1) := by decide +kernel
theorem dX5_weekOfAll_0 : decode cX5_weekOfAll 0 = .ok (.aload_n 0, 1) := by decide +kernel
theorem dX5_weekOfAll_1 : decode cX5_weekOfAll 1 = .ok (.iload_n 1, 1) := by decide +kernel
theorem dX5_weekOfAll_2 : decode cX5_weekOfAll 2 = .ok (.invokevirtual 105, 3) := by decide +kernel
theorem dX5_weekOfAll_5 : decode cX5_weekOfAll 5 = .ok (.istore_n 3, 1) := by decide +kernel
theorem dX5_weekOfAll_6 : decode cX5_weekOfAll 6 = .ok (.aload_n 0, 1) := by decide +kernel
theorem dX5_weekOfAll_7 : decode cX5_weekOfAll 7 = .ok (.iload_n 1, 1) := by decide +kernel
theorem dX5_weekOfAll_8 : decode cX5_weekOfAll 8 = .ok (.invokevirtual 124, 3) := by decide +kernel
theorem dX5_weekOfAll_11 : decode cX5_weekOfAll 11 = .ok (.istore 4, 2) := by decide +kernel
theorem dX5_weekOfAll_13 : decode cX5_weekOfAll 13 = .ok (.iload_n 2, 1) := by decide +kernel
theorem dX5_weekOfAll_14 : decode cX5_weekOfAll 14 = .ok (.tableswitch 59 0 4 #[34, 36, 39, 45, 51], 34) := by decide +kernel
theorem dX5_weekOfAll_48 : decode cX5_weekOfAll 48 = .ok (.iload_n 3, 1) := by decide +kernel
theorem dX5_weekOfAll_49 : decode cX5_weekOfAll 49 = .ok (.ireturn, 1) := by decide +kernel
theorem dX5_weekOfAll_50 : decode cX5_weekOfAll 50 = .ok (.iload 4, 2) := by decide +kernel
theorem dX5_weekOfAll_52 : decode cX5_weekOfAll 52 = .ok (.ireturn, 1) := by decide +kernel
theorem dX5_weekOfAll_53 : decode cX5_weekOfAll 53 = .ok (.aload_n 0, 1) := by decide +kernel
theorem dX5_weekOfAll_54 : decode cX5_weekOfAll 54 = .ok (.iload_n 1, 1) := by decide +kernel
theorem dX5_weekOfAll_55 : decode cX5_weekOfAll 55 = .ok (.invokevirtual 127, 3) := by decide +kernel
theorem dX5_weekOfAll_58 : decode cX5_weekOfAll 58 = .ok (.ireturn, 1) := by decide +kernel
theorem dX5_weekOfAll_59 : decode cX5_weekOfAll 59 = .ok (.aload_n 0, 1) := by decide +kernel
theorem dX5_weekOfAll_60 : decode cX5_weekOfAll 60 = .ok (.iload_n 1, 1) := by decide +kernel
theorem dX5_weekOfAll_61 : decode cX5_weekOfAll 61 = .ok (.invokevirtual 130, 3) := by decide +kernel
theorem dX5_weekOfAll_64 : decode cX5_weekOfAll 64 = .ok (.ireturn, 1) := by decide +kernel
theorem dX5_weekOfAll_65 : decode cX5_weekOfAll 65 = .ok (.aload_n 0, 1) := by decide +kernel
theorem dX5_weekOfAll_66 : decode cX5_weekOfAll 66 = .ok (.iload_n 3, 1) := by decide +kernel
theorem dX5_weekOfAll_67 : decode cX5_weekOfAll 67 = .ok (.iload 4, 2) := by decide +kernel
theorem dX5_weekOfAll_69 : decode cX5_weekOfAll 69 = .ok (.invokevirtual 133, 3) := by decide +kernel
theorem dX5_weekOfAll_72 : decode cX5_weekOfAll 72 = .ok (.ireturn, 1) := by decide +kernel
theorem dX5_weekOfAll_73 : decode cX5_weekOfAll 73 = .ok (.aload_n 0, 1) := by decide +kernel
theorem dX5_weekOfAll_74 : decode cX5_weekOfAll 74 = .ok (.iload_n 3, 1) := by decide +kernel
theorem dX5_weekOfAll_75 : decode cX5_weekOfAll 75 = .ok (.iload 4, 2) := by decide +kernel
theorem dX5_weekOfAll_77 : decode cX5_weekOfAll 77 = .ok (.aload_n 0, 1) := by decide +kernel
theorem dX5_weekOfAll_78 : decode cX5_weekOfAll 78 = .ok (.getfield 7, 3) := by decide +kernel
theorem dX5_weekOfAll_81 : decode cX5_weekOfAll 81 = .ok (.iconst 3, 1) := by decide +kernel
theorem dX5_weekOfAll_82 : decode cX5_weekOfAll 82 = .ok (.iaload, 1) := by decide +kernel
theorem dX5_weekOfAll_83 : decode cX5_weekOfAll 83 = .ok (.invokevirtual 136, 3) := by decide +kernel
theorem dX5_weekOfAll_86 : decode cX5_weekOfAll 86 = .ok (.ireturn, 1) := by decide +kernel
theorem dX5_week_0 : decode cX5_week 0 = .ok (.iload_n 1, 1) := by decide +kernel
theorem dX5_week_1 : decode cX5_week 1 = .ok (.ifCond .lt 12, 3) := by decide +kernel
theorem dX5_week_4 : decode cX5_week 4 = .ok (.iload_n 2, 1) := by decide +kernel
theorem dX5_week_5 : decode cX5_week 5 = .ok (.iconst 0, 1) := by decide +kernel
theorem dX5_week_6 : decode cX5_week 6 = .ok (.iconst 5, 1) := by decide +kernel
theorem dX5_week_7 : decode cX5_week 7 = .ok (.invokestatic 32, 3) := by decide +kernel
theorem dX5_week_10 : decode cX5_week 10 = .ok (.ifCond .ne 5, 3) := by decide +kernel
theorem dX5_week_13 : decode cX5_week 13 = .ok (.iconst (-1), 1) := by decide +kernel
theorem dX5_week_14 : decode cX5_week 14 = .ok (.ireturn, 1) := by decide +kernel
theorem dX5_week_15 : decode cX5_week 15 = .ok (.aload_n 0, 1) := by decide +kernel
theorem dX5_week_16 : decode cX5_week 16 = .ok (.invokevirtual 140, 3) := by decide +kernel
theorem dX5_week_19 : decode cX5_week 19 = .ok (.iload_n 1, 1) := by decide +kernel
theorem dX5_week_20 : decode cX5_week 20 = .ok (.aload_n 0, 1) := by decide +kernel
theorem dX5_week_21 : decode cX5_week 21 = .ok (.invokevirtual 56, 3) := by decide +kernel
theorem dX5_week_24 : decode cX5_week 24 = .ok (.if_icmp .ge 12, 3) := by decide +kernel
theorem dX5_week_27 : decode cX5_week 27 = .ok (.aload_n 0, 1) := by decide +kernel
theorem dX5_week_28 : decode cX5_week 28 = .ok (.iload_n 1, 1) := by decide +kernel
theorem dX5_week_29 : decode cX5_week 29 = .ok (.iload_n 2, 1) := by decide +kernel
theorem dX5_week_30 : decode cX5_week 30 = .ok (.invokevirtual 143, 3) := by decide +kernel
theorem dX5_week_33 : decode cX5_week 33 = .ok (.goto 5, 3) := by decide +kernel
theorem dX5_week_36 : decode cX5_week 36 = .ok (.bipush (-9), 2) := by decide +kernel
theorem dX5_week_38 : decode cX5_week 38 = .ok (.ireturn, 1) := by decide +kernel
theorem dX5_type_0 : decode cX5_type 0 = .ok (.iload_n 1, 1) := by decide +kernel
theorem dX5_type_1 : decode cX5_type 1 = .ok (.bipush 33, 2) := by decide +kernel
theorem dX5_type_3 : decode cX5_type 3 = .ok (.bipush 126, 2) := by decide +kernel
theorem dX5_type_5 : decode cX5_type 5 = .ok (.invokestatic 32, 3) := by decide +kernel
theorem dX5_type_8 : decode cX5_type 8 = .ok (.ifCond .ne 5, 3) := by decide +kernel
theorem dX5_type_11 : decode cX5_type 11 = .ok (.iconst (-1), 1) := by decide +kernel
theorem dX5_type_12 : decode cX5_type 12 = .ok (.ireturn, 1) := by decide +kernel
theorem dX5_type_13 : decode cX5_type 13 = .ok (.aload_n 0, 1) := by decide +kernel
theorem dX5_type_14 : decode cX5_type 14 = .ok (.getfield 146, 3) := by decide +kernel
theorem dX5_type_17 : decode cX5_type 17 = .ok (.bipush 100, 2) := by decide +kernel
theorem dX5_type_19 : decode cX5_type 19 = .ok (.if_icmp .ne 6, 3) := by decide +kernel
theorem dX5_type_22 : decode cX5_type 22 = .ok (.bipush (-3), 2) := by decide +kernel
theorem dX5_type_24 : decode cX5_type 24 = .ok (.ireturn, 1) := by decide +kernel
theorem dX5_type_25 : decode cX5_type 25 = .ok (.aload_n 0, 1) := by decide +kernel
theorem dX5_type_26 : decode cX5_type 26 = .ok (.getfield 13, 3) := by decide +kernel
theorem dX5_type_29 : decode cX5_type 29 = .ok (.aload_n 0, 1) := by decide +kernel
theorem dX5_type_30 : decode cX5_type 30 = .ok (.getfield 146, 3) := by decide +kernel
theorem dX5_type_33 : decode cX5_type 33 = .ok (.iload_n 1, 1) := by decide +kernel
theorem dX5_type_34 : decode cX5_type 34 = .ok (.iastore, 1) := by decide +kernel
theorem dX5_type_35 : decode cX5_type 35 = .ok (.aload_n 0, 1) := by decide +kernel
theorem dX5_type_36 : decode cX5_type 36 = .ok (.dup, 1) := by decide +kernel
theorem dX5_type_37 : decode cX5_type 37 = .ok (.getfield 146, 3) := by decide +kernel
theorem dX5_type_40 : decode cX5_type 40 = .ok (.iconst 1, 1) := by decide +kernel
theorem dX5_type_41 : decode cX5_type 41 = .ok (.iadd, 1) := by decide +kernel
theorem dX5_type_42 : decode cX5_type 42 = .ok (.putfield 146, 3) := by decide +kernel
theorem dX5_type_45 : decode cX5_type 45 = .ok (.aload_n 0, 1) := by decide +kernel
theorem dX5_type_46 : decode cX5_type 46 = .ok (.getfield 146, 3) := by decide +kernel
theorem dX5_type_49 : decode cX5_type 49 = .ok (.ireturn, 1) := by decide +kernel
theorem dX5_clear_0 : decode cX5_clear 0 = .ok (.aload_n 0, 1) := by decide +kernel
theorem dX5_clear_1 : decode cX5_clear 1 = .ok (.getfield 146, 3) := by decide +kernel
theorem dX5_clear_4 : decode cX5_clear 4 = .ok (.istore_n 1, 1) := by decide +kernel
theorem dX5_clear_5 : decode cX5_clear 5 = .ok (.aload_n 0, 1) := by decide +kernel
theorem dX5_clear_6 : decode cX5_clear 6 = .ok (.iconst 0, 1) := by decide +kernel
theorem dX5_clear_7 : decode cX5_clear 7 = .ok (.putfield 146, 3) := by decide +kernel
theorem dX5_clear_10 : decode cX5_clear 10 = .ok (.iload_n 1, 1) := by decide +kernel
theorem dX5_clear_11 : decode cX5_clear 11 = .ok (.ireturn, 1) := by decide +kernel
theorem dX5_here_0 : decode cX5_here 0 = .ok (.aload_n 0, 1) := by decide +kernel
theorem dX5_here_1 : decode cX5_here 1 = .ok (.getfield 149, 3) := by decide +kernel
theorem dX5_here_4 : decode cX5_here 4 = .ok (.aload_n 0, 1) := by decide +kernel
theorem dX5_here_5 : decode cX5_here 5 = .ok (.getfield 146, 3) := by decide +kernel
theorem dX5_here_8 : decode cX5_here 8 = .ok (.if_icmp .ge 15, 3) := by decide +kernel
theorem dX5_here_11 : decode cX5_here 11 = .ok (.aload_n 0, 1) := by decide +kernel
theorem dX5_here_12 : decode cX5_here 12 = .ok (.getfield 13, 3) := by decide +kernel
theorem dX5_here_15 : decode cX5_here 15 = .ok (.aload_n 0, 1) := by decide +kernel
theorem dX5_here_16 : decode cX5_here 16 = .ok (.getfield 149, 3) := by decide +kernel
theorem dX5_here_19 : decode cX5_here 19 = .ok (.iaload, 1) := by decide +kernel
theorem dX5_here_20 : decode cX5_here 20 = .ok (.goto 5, 3) := by decide +kernel
theorem dX5_here_23 : decode cX5_here 23 = .ok (.bipush (-9), 2) := by decide +kernel
theorem dX5_here_25 : decode cX5_here 25 = .ok (.ireturn, 1) := by decide +kernel
theorem dX5_takes_0 : decode cX5_takes 0 = .ok (.aload_n 0, 1) := by decide +kernel
theorem dX5_takes_1 : decode cX5_takes 1 = .ok (.invokevirtual 152, 3) := by decide +kernel
theorem dX5_takes_4 : decode cX5_takes 4 = .ok (.iload_n 1, 1) := by decide +kernel
theorem dX5_takes_5 : decode cX5_takes 5 = .ok (.if_icmp .ne 7, 3) := by decide +kernel
theorem dX5_takes_8 : decode cX5_takes 8 = .ok (.iconst 1, 1) := by decide +kernel
theorem dX5_takes_9 : decode cX5_takes 9 = .ok (.goto 4, 3) := by decide +kernel
theorem dX5_takes_12 : decode cX5_takes 12 = .ok (.iconst 0, 1) := by decide +kernel
theorem dX5_takes_13 : decode cX5_takes 13 = .ok (.istore_n 2, 1) := by decide +kernel
theorem dX5_takes_14 : decode cX5_takes 14 = .ok (.aload_n 0, 1) := by decide +kernel
theorem dX5_takes_15 : decode cX5_takes 15 = .ok (.dup, 1) := by decide +kernel
theorem dX5_takes_16 : decode cX5_takes 16 = .ok (.getfield 149, 3) := by decide +kernel
theorem dX5_takes_19 : decode cX5_takes 19 = .ok (.iload_n 2, 1) := by decide +kernel
theorem dX5_takes_20 : decode cX5_takes 20 = .ok (.ifCond .eq 7, 3) := by decide +kernel
theorem dX5_takes_23 : decode cX5_takes 23 = .ok (.iconst 1, 1) := by decide +kernel
theorem dX5_takes_24 : decode cX5_takes 24 = .ok (.goto 4, 3) := by decide +kernel
theorem dX5_takes_27 : decode cX5_takes 27 = .ok (.iconst 0, 1) := by decide +kernel
theorem dX5_takes_28 : decode cX5_takes 28 = .ok (.iadd, 1) := by decide +kernel
theorem dX5_takes_29 : decode cX5_takes 29 = .ok (.putfield 149, 3) := by decide +kernel
theorem dX5_takes_32 : decode cX5_takes 32 = .ok (.iload_n 2, 1) := by decide +kernel
theorem dX5_takes_33 : decode cX5_takes 33 = .ok (.ireturn, 1) := by decide +kernel
theorem dX5_isFigure_0 : decode cX5_isFigure 0 = .ok (.aload_n 0, 1) := by decide +kernel
theorem dX5_isFigure_1 : decode cX5_isFigure 1 = .ok (.invokevirtual 152, 3) := by decide +kernel
theorem dX5_isFigure_4 : decode cX5_isFigure 4 = .ok (.bipush 48, 2) := by decide +kernel
theorem dX5_isFigure_6 : decode cX5_isFigure 6 = .ok (.bipush 57, 2) := by decide +kernel
theorem dX5_isFigure_8 : decode cX5_isFigure 8 = .ok (.invokestatic 32, 3) := by decide +kernel
theorem dX5_isFigure_11 : decode cX5_isFigure 11 = .ok (.ireturn, 1) := by decide +kernel
theorem dX5_readsNumber_0 : decode cX5_readsNumber 0 = .ok (.iconst 0, 1) := by decide +kernel
theorem dX5_readsNumber_1 : decode cX5_readsNumber 1 = .ok (.istore 4, 2) := by decide +kernel
theorem dX5_readsNumber_3 : decode cX5_readsNumber 3 = .ok (.aload_n 0, 1) := by decide +kernel
theorem dX5_readsNumber_4 : decode cX5_readsNumber 4 = .ok (.iconst 0, 1) := by decide +kernel
theorem dX5_readsNumber_5 : decode cX5_readsNumber 5 = .ok (.putfield 155, 3) := by decide +kernel
theorem dX5_readsNumber_8 : decode cX5_readsNumber 8 = .ok (.aload_n 0, 1) := by decide +kernel
theorem dX5_readsNumber_9 : decode cX5_readsNumber 9 = .ok (.invokevirtual 158, 3) := by decide +kernel
theorem dX5_readsNumber_12 : decode cX5_readsNumber 12 = .ok (.ifCond .eq 44, 3) := by decide +kernel
theorem dX5_readsNumber_15 : decode cX5_readsNumber 15 = .ok (.iload 4, 2) := by decide +kernel
theorem dX5_readsNumber_17 : decode cX5_readsNumber 17 = .ok (.iload_n 1, 1) := by decide +kernel
theorem dX5_readsNumber_18 : decode cX5_readsNumber 18 = .ok (.if_icmp .ge 38, 3) := by decide +kernel
theorem dX5_readsNumber_21 : decode cX5_readsNumber 21 = .ok (.aload_n 0, 1) := by decide +kernel
theorem dX5_readsNumber_22 : decode cX5_readsNumber 22 = .ok (.bipush 10, 2) := by decide +kernel
theorem dX5_readsNumber_24 : decode cX5_readsNumber 24 = .ok (.aload_n 0, 1) := by decide +kernel
theorem dX5_readsNumber_25 : decode cX5_readsNumber 25 = .ok (.getfield 155, 3) := by decide +kernel
theorem dX5_readsNumber_28 : decode cX5_readsNumber 28 = .ok (.imul, 1) := by decide +kernel
theorem dX5_readsNumber_29 : decode cX5_readsNumber 29 = .ok (.aload_n 0, 1) := by decide +kernel
theorem dX5_readsNumber_30 : decode cX5_readsNumber 30 = .ok (.invokevirtual 152, 3) := by decide +kernel
theorem dX5_readsNumber_33 : decode cX5_readsNumber 33 = .ok (.iadd, 1) := by decide +kernel
theorem dX5_readsNumber_34 : decode cX5_readsNumber 34 = .ok (.bipush 48, 2) := by decide +kernel
theorem dX5_readsNumber_36 : decode cX5_readsNumber 36 = .ok (.isub, 1) := by decide +kernel
theorem dX5_readsNumber_37 : decode cX5_readsNumber 37 = .ok (.putfield 155, 3) := by decide +kernel
theorem dX5_readsNumber_40 : decode cX5_readsNumber 40 = .ok (.aload_n 0, 1) := by decide +kernel
theorem dX5_readsNumber_41 : decode cX5_readsNumber 41 = .ok (.dup, 1) := by decide +kernel
theorem dX5_readsNumber_42 : decode cX5_readsNumber 42 = .ok (.getfield 149, 3) := by decide +kernel
theorem dX5_readsNumber_45 : decode cX5_readsNumber 45 = .ok (.iconst 1, 1) := by decide +kernel
theorem dX5_readsNumber_46 : decode cX5_readsNumber 46 = .ok (.iadd, 1) := by decide +kernel
theorem dX5_readsNumber_47 : decode cX5_readsNumber 47 = .ok (.putfield 149, 3) := by decide +kernel
theorem dX5_readsNumber_50 : decode cX5_readsNumber 50 = .ok (.iinc 4 1, 3) := by decide +kernel
theorem dX5_readsNumber_53 : decode cX5_readsNumber 53 = .ok (.goto (-45), 3) := by decide +kernel
theorem dX5_readsNumber_56 : decode cX5_readsNumber 56 = .ok (.iload 4, 2) := by decide +kernel
theorem dX5_readsNumber_58 : decode cX5_readsNumber 58 = .ok (.ifCond .eq 10, 3) := by decide +kernel
theorem dX5_readsNumber_61 : decode cX5_readsNumber 61 = .ok (.aload_n 0, 1) := by decide +kernel
theorem dX5_readsNumber_62 : decode cX5_readsNumber 62 = .ok (.invokevirtual 158, 3) := by decide +kernel
theorem dX5_readsNumber_65 : decode cX5_readsNumber 65 = .ok (.ifCond .eq 5, 3) := by decide +kernel
theorem dX5_readsNumber_68 : decode cX5_readsNumber 68 = .ok (.iconst 0, 1) := by decide +kernel
theorem dX5_readsNumber_69 : decode cX5_readsNumber 69 = .ok (.ireturn, 1) := by decide +kernel
theorem dX5_readsNumber_70 : decode cX5_readsNumber 70 = .ok (.aload_n 0, 1) := by decide +kernel
theorem dX5_readsNumber_71 : decode cX5_readsNumber 71 = .ok (.getfield 155, 3) := by decide +kernel
theorem dX5_readsNumber_74 : decode cX5_readsNumber 74 = .ok (.iload_n 2, 1) := by decide +kernel
theorem dX5_readsNumber_75 : decode cX5_readsNumber 75 = .ok (.iload_n 3, 1) := by decide +kernel
theorem dX5_readsNumber_76 : decode cX5_readsNumber 76 = .ok (.invokestatic 32, 3) := by decide +kernel
theorem dX5_readsNumber_79 : decode cX5_readsNumber 79 = .ok (.istore 5, 2) := by decide +kernel
theorem dX5_readsNumber_81 : decode cX5_readsNumber 81 = .ok (.aload_n 0, 1) := by decide +kernel
theorem dX5_readsNumber_82 : decode cX5_readsNumber 82 = .ok (.dup, 1) := by decide +kernel
theorem dX5_readsNumber_83 : decode cX5_readsNumber 83 = .ok (.getfield 149, 3) := by decide +kernel
theorem dX5_readsNumber_86 : decode cX5_readsNumber 86 = .ok (.iload 5, 2) := by decide +kernel
theorem dX5_readsNumber_88 : decode cX5_readsNumber 88 = .ok (.ifCond .eq 7, 3) := by decide +kernel
theorem dX5_readsNumber_91 : decode cX5_readsNumber 91 = .ok (.iconst 0, 1) := by decide +kernel
theorem dX5_readsNumber_92 : decode cX5_readsNumber 92 = .ok (.goto 4, 3) := by decide +kernel
theorem dX5_readsNumber_95 : decode cX5_readsNumber 95 = .ok (.iconst 1, 1) := by decide +kernel
theorem dX5_readsNumber_96 : decode cX5_readsNumber 96 = .ok (.isub, 1) := by decide +kernel
theorem dX5_readsNumber_97 : decode cX5_readsNumber 97 = .ok (.putfield 149, 3) := by decide +kernel
theorem dX5_readsNumber_100 : decode cX5_readsNumber 100 = .ok (.iload 5, 2) := by decide +kernel
theorem dX5_readsNumber_102 : decode cX5_readsNumber 102 = .ok (.ireturn, 1) := by decide +kernel
theorem dX5_readsTwo_0 : decode cX5_readsTwo 0 = .ok (.aload_n 0, 1) := by decide +kernel
theorem dX5_readsTwo_1 : decode cX5_readsTwo 1 = .ok (.iconst 0, 1) := by decide +kernel
theorem dX5_readsTwo_2 : decode cX5_readsTwo 2 = .ok (.putfield 155, 3) := by decide +kernel
theorem dX5_readsTwo_5 : decode cX5_readsTwo 5 = .ok (.iconst 0, 1) := by decide +kernel
theorem dX5_readsTwo_6 : decode cX5_readsTwo 6 = .ok (.istore_n 2, 1) := by decide +kernel
theorem dX5_readsTwo_7 : decode cX5_readsTwo 7 = .ok (.iload_n 2, 1) := by decide +kernel
theorem dX5_readsTwo_8 : decode cX5_readsTwo 8 = .ok (.iconst 2, 1) := by decide +kernel
theorem dX5_readsTwo_9 : decode cX5_readsTwo 9 = .ok (.if_icmp .ge 47, 3) := by decide +kernel
theorem dX5_readsTwo_12 : decode cX5_readsTwo 12 = .ok (.aload_n 0, 1) := by decide +kernel
theorem dX5_readsTwo_13 : decode cX5_readsTwo 13 = .ok (.invokevirtual 158, 3) := by decide +kernel
theorem dX5_readsTwo_16 : decode cX5_readsTwo 16 = .ok (.ifCond .ne 5, 3) := by decide +kernel
theorem dX5_readsTwo_19 : decode cX5_readsTwo 19 = .ok (.iconst 0, 1) := by decide +kernel
theorem dX5_readsTwo_20 : decode cX5_readsTwo 20 = .ok (.ireturn, 1) := by decide +kernel
theorem dX5_readsTwo_21 : decode cX5_readsTwo 21 = .ok (.aload_n 0, 1) := by decide +kernel
theorem dX5_readsTwo_22 : decode cX5_readsTwo 22 = .ok (.bipush 10, 2) := by decide +kernel
theorem dX5_readsTwo_24 : decode cX5_readsTwo 24 = .ok (.aload_n 0, 1) := by decide +kernel
theorem dX5_readsTwo_25 : decode cX5_readsTwo 25 = .ok (.getfield 155, 3) := by decide +kernel
theorem dX5_readsTwo_28 : decode cX5_readsTwo 28 = .ok (.imul, 1) := by decide +kernel
theorem dX5_readsTwo_29 : decode cX5_readsTwo 29 = .ok (.aload_n 0, 1) := by decide +kernel
theorem dX5_readsTwo_30 : decode cX5_readsTwo 30 = .ok (.invokevirtual 152, 3) := by decide +kernel
theorem dX5_readsTwo_33 : decode cX5_readsTwo 33 = .ok (.iadd, 1) := by decide +kernel
theorem dX5_readsTwo_34 : decode cX5_readsTwo 34 = .ok (.bipush 48, 2) := by decide +kernel
theorem dX5_readsTwo_36 : decode cX5_readsTwo 36 = .ok (.isub, 1) := by decide +kernel
theorem dX5_readsTwo_37 : decode cX5_readsTwo 37 = .ok (.putfield 155, 3) := by decide +kernel
theorem dX5_readsTwo_40 : decode cX5_readsTwo 40 = .ok (.aload_n 0, 1) := by decide +kernel
theorem dX5_readsTwo_41 : decode cX5_readsTwo 41 = .ok (.dup, 1) := by decide +kernel
theorem dX5_readsTwo_42 : decode cX5_readsTwo 42 = .ok (.getfield 149, 3) := by decide +kernel
theorem dX5_readsTwo_45 : decode cX5_readsTwo 45 = .ok (.iconst 1, 1) := by decide +kernel
theorem dX5_readsTwo_46 : decode cX5_readsTwo 46 = .ok (.iadd, 1) := by decide +kernel
theorem dX5_readsTwo_47 : decode cX5_readsTwo 47 = .ok (.putfield 149, 3) := by decide +kernel
theorem dX5_readsTwo_50 : decode cX5_readsTwo 50 = .ok (.iinc 2 1, 3) := by decide +kernel
theorem dX5_readsTwo_53 : decode cX5_readsTwo 53 = .ok (.goto (-46), 3) := by decide +kernel
theorem dX5_readsTwo_56 : decode cX5_readsTwo 56 = .ok (.aload_n 0, 1) := by decide +kernel
theorem dX5_readsTwo_57 : decode cX5_readsTwo 57 = .ok (.dup, 1) := by decide +kernel
theorem dX5_readsTwo_58 : decode cX5_readsTwo 58 = .ok (.getfield 149, 3) := by decide +kernel
theorem dX5_readsTwo_61 : decode cX5_readsTwo 61 = .ok (.aload_n 0, 1) := by decide +kernel
theorem dX5_readsTwo_62 : decode cX5_readsTwo 62 = .ok (.getfield 155, 3) := by decide +kernel
theorem dX5_readsTwo_65 : decode cX5_readsTwo 65 = .ok (.iload_n 1, 1) := by decide +kernel
theorem dX5_readsTwo_66 : decode cX5_readsTwo 66 = .ok (.if_icmp .le 7, 3) := by decide +kernel
theorem dX5_readsTwo_69 : decode cX5_readsTwo 69 = .ok (.iconst 1, 1) := by decide +kernel
theorem dX5_readsTwo_70 : decode cX5_readsTwo 70 = .ok (.goto 4, 3) := by decide +kernel
theorem dX5_readsTwo_73 : decode cX5_readsTwo 73 = .ok (.iconst 0, 1) := by decide +kernel
theorem dX5_readsTwo_74 : decode cX5_readsTwo 74 = .ok (.isub, 1) := by decide +kernel
theorem dX5_readsTwo_75 : decode cX5_readsTwo 75 = .ok (.putfield 149, 3) := by decide +kernel
theorem dX5_readsTwo_78 : decode cX5_readsTwo 78 = .ok (.aload_n 0, 1) := by decide +kernel
theorem dX5_readsTwo_79 : decode cX5_readsTwo 79 = .ok (.getfield 155, 3) := by decide +kernel
theorem dX5_readsTwo_82 : decode cX5_readsTwo 82 = .ok (.iload_n 1, 1) := by decide +kernel
theorem dX5_readsTwo_83 : decode cX5_readsTwo 83 = .ok (.if_icmp .gt 7, 3) := by decide +kernel
theorem dX5_readsTwo_86 : decode cX5_readsTwo 86 = .ok (.iconst 1, 1) := by decide +kernel
theorem dX5_readsTwo_87 : decode cX5_readsTwo 87 = .ok (.goto 4, 3) := by decide +kernel
theorem dX5_readsTwo_90 : decode cX5_readsTwo 90 = .ok (.iconst 0, 1) := by decide +kernel
theorem dX5_readsTwo_91 : decode cX5_readsTwo 91 = .ok (.ireturn, 1) := by decide +kernel
theorem dX5_readsTime_0 : decode cX5_readsTime 0 = .ok (.aload_n 0, 1) := by decide +kernel
theorem dX5_readsTime_1 : decode cX5_readsTime 1 = .ok (.bipush 23, 2) := by decide +kernel
theorem dX5_readsTime_3 : decode cX5_readsTime 3 = .ok (.invokevirtual 162, 3) := by decide +kernel
theorem dX5_readsTime_6 : decode cX5_readsTime 6 = .ok (.ifCond .ne 5, 3) := by decide +kernel
theorem dX5_readsTime_9 : decode cX5_readsTime 9 = .ok (.iconst 0, 1) := by decide +kernel
theorem dX5_readsTime_10 : decode cX5_readsTime 10 = .ok (.ireturn, 1) := by decide +kernel
theorem dX5_readsTime_11 : decode cX5_readsTime 11 = .ok (.aload_n 0, 1) := by decide +kernel
theorem dX5_readsTime_12 : decode cX5_readsTime 12 = .ok (.getfield 155, 3) := by decide +kernel
theorem dX5_readsTime_15 : decode cX5_readsTime 15 = .ok (.istore_n 2, 1) := by decide +kernel
theorem dX5_readsTime_16 : decode cX5_readsTime 16 = .ok (.aload_n 0, 1) := by decide +kernel
theorem dX5_readsTime_17 : decode cX5_readsTime 17 = .ok (.bipush 58, 2) := by decide +kernel
theorem dX5_readsTime_19 : decode cX5_readsTime 19 = .ok (.invokevirtual 165, 3) := by decide +kernel
theorem dX5_readsTime_22 : decode cX5_readsTime 22 = .ok (.ifCond .eq 12, 3) := by decide +kernel
theorem dX5_readsTime_25 : decode cX5_readsTime 25 = .ok (.aload_n 0, 1) := by decide +kernel
theorem dX5_readsTime_26 : decode cX5_readsTime 26 = .ok (.bipush 59, 2) := by decide +kernel
theorem dX5_readsTime_28 : decode cX5_readsTime 28 = .ok (.invokevirtual 162, 3) := by decide +kernel
theorem dX5_readsTime_31 : decode cX5_readsTime 31 = .ok (.ifCond .ne 5, 3) := by decide +kernel
theorem dX5_readsTime_34 : decode cX5_readsTime 34 = .ok (.iconst 0, 1) := by decide +kernel
theorem dX5_readsTime_35 : decode cX5_readsTime 35 = .ok (.ireturn, 1) := by decide +kernel
theorem dX5_readsTime_36 : decode cX5_readsTime 36 = .ok (.aload_n 0, 1) := by decide +kernel
theorem dX5_readsTime_37 : decode cX5_readsTime 37 = .ok (.getfield 25, 3) := by decide +kernel
theorem dX5_readsTime_40 : decode cX5_readsTime 40 = .ok (.iload_n 1, 1) := by decide +kernel
theorem dX5_readsTime_41 : decode cX5_readsTime 41 = .ok (.iconst 2, 1) := by decide +kernel
theorem dX5_readsTime_42 : decode cX5_readsTime 42 = .ok (.iadd, 1) := by decide +kernel
theorem dX5_readsTime_43 : decode cX5_readsTime 43 = .ok (.bipush 60, 2) := by decide +kernel
theorem dX5_readsTime_45 : decode cX5_readsTime 45 = .ok (.iload_n 2, 1) := by decide +kernel
theorem dX5_readsTime_46 : decode cX5_readsTime 46 = .ok (.imul, 1) := by decide +kernel
theorem dX5_readsTime_47 : decode cX5_readsTime 47 = .ok (.aload_n 0, 1) := by decide +kernel
theorem dX5_readsTime_48 : decode cX5_readsTime 48 = .ok (.getfield 155, 3) := by decide +kernel
theorem dX5_readsTime_51 : decode cX5_readsTime 51 = .ok (.iadd, 1) := by decide +kernel
theorem dX5_readsTime_52 : decode cX5_readsTime 52 = .ok (.iastore, 1) := by decide +kernel
theorem dX5_readsTime_53 : decode cX5_readsTime 53 = .ok (.iconst 1, 1) := by decide +kernel
theorem dX5_readsTime_54 : decode cX5_readsTime 54 = .ok (.ireturn, 1) := by decide +kernel
theorem dX5_readsEntry_0 : decode cX5_readsEntry 0 = .ok (.iconst 4, 1) := by decide +kernel
theorem dX5_readsEntry_1 : decode cX5_readsEntry 1 = .ok (.iload_n 1, 1) := by decide +kernel
theorem dX5_readsEntry_2 : decode cX5_readsEntry 2 = .ok (.imul, 1) := by decide +kernel
theorem dX5_readsEntry_3 : decode cX5_readsEntry 3 = .ok (.istore_n 2, 1) := by decide +kernel
theorem dX5_readsEntry_4 : decode cX5_readsEntry 4 = .ok (.iload_n 1, 1) := by decide +kernel
theorem dX5_readsEntry_5 : decode cX5_readsEntry 5 = .ok (.bipush 24, 2) := by decide +kernel
theorem dX5_readsEntry_7 : decode cX5_readsEntry 7 = .ok (.if_icmp .eq 15, 3) := by decide +kernel
theorem dX5_readsEntry_10 : decode cX5_readsEntry 10 = .ok (.aload_n 0, 1) := by decide +kernel
theorem dX5_readsEntry_11 : decode cX5_readsEntry 11 = .ok (.iconst 3, 1) := by decide +kernel
theorem dX5_readsEntry_12 : decode cX5_readsEntry 12 = .ok (.iconst 0, 1) := by decide +kernel
theorem dX5_readsEntry_13 : decode cX5_readsEntry 13 = .ok (.sipush 999, 3) := by decide +kernel
theorem dX5_readsEntry_16 : decode cX5_readsEntry 16 = .ok (.invokevirtual 168, 3) := by decide +kernel
theorem dX5_readsEntry_19 : decode cX5_readsEntry 19 = .ok (.ifCond .ne 5, 3) := by decide +kernel
theorem dX5_readsEntry_22 : decode cX5_readsEntry 22 = .ok (.iconst 0, 1) := by decide +kernel
theorem dX5_readsEntry_23 : decode cX5_readsEntry 23 = .ok (.ireturn, 1) := by decide +kernel
theorem dX5_readsEntry_24 : decode cX5_readsEntry 24 = .ok (.aload_n 0, 1) := by decide +kernel
theorem dX5_readsEntry_25 : decode cX5_readsEntry 25 = .ok (.getfield 25, 3) := by decide +kernel
theorem dX5_readsEntry_28 : decode cX5_readsEntry 28 = .ok (.iload_n 2, 1) := by decide +kernel
theorem dX5_readsEntry_29 : decode cX5_readsEntry 29 = .ok (.aload_n 0, 1) := by decide +kernel
theorem dX5_readsEntry_30 : decode cX5_readsEntry 30 = .ok (.getfield 155, 3) := by decide +kernel
theorem dX5_readsEntry_33 : decode cX5_readsEntry 33 = .ok (.iastore, 1) := by decide +kernel
theorem dX5_readsEntry_34 : decode cX5_readsEntry 34 = .ok (.aload_n 0, 1) := by decide +kernel
theorem dX5_readsEntry_35 : decode cX5_readsEntry 35 = .ok (.bipush 45, 2) := by decide +kernel
theorem dX5_readsEntry_37 : decode cX5_readsEntry 37 = .ok (.invokevirtual 165, 3) := by decide +kernel
theorem dX5_readsEntry_40 : decode cX5_readsEntry 40 = .ok (.ifCond .eq 22, 3) := by decide +kernel
theorem dX5_readsEntry_43 : decode cX5_readsEntry 43 = .ok (.aload_n 0, 1) := by decide +kernel
theorem dX5_readsEntry_44 : decode cX5_readsEntry 44 = .ok (.iconst 3, 1) := by decide +kernel
theorem dX5_readsEntry_45 : decode cX5_readsEntry 45 = .ok (.aload_n 0, 1) := by decide +kernel
theorem dX5_readsEntry_46 : decode cX5_readsEntry 46 = .ok (.getfield 25, 3) := by decide +kernel
theorem dX5_readsEntry_49 : decode cX5_readsEntry 49 = .ok (.iload_n 2, 1) := by decide +kernel
theorem dX5_readsEntry_50 : decode cX5_readsEntry 50 = .ok (.iaload, 1) := by decide +kernel
theorem dX5_readsEntry_51 : decode cX5_readsEntry 51 = .ok (.sipush 999, 3) := by decide +kernel
theorem dX5_readsEntry_54 : decode cX5_readsEntry 54 = .ok (.invokevirtual 168, 3) := by decide +kernel
theorem dX5_readsEntry_57 : decode cX5_readsEntry 57 = .ok (.ifCond .ne 5, 3) := by decide +kernel
theorem dX5_readsEntry_60 : decode cX5_readsEntry 60 = .ok (.iconst 0, 1) := by decide +kernel
theorem dX5_readsEntry_61 : decode cX5_readsEntry 61 = .ok (.ireturn, 1) := by decide +kernel
theorem dX5_readsEntry_62 : decode cX5_readsEntry 62 = .ok (.aload_n 0, 1) := by decide +kernel
theorem dX5_readsEntry_63 : decode cX5_readsEntry 63 = .ok (.getfield 25, 3) := by decide +kernel
theorem dX5_readsEntry_66 : decode cX5_readsEntry 66 = .ok (.iload_n 2, 1) := by decide +kernel
theorem dX5_readsEntry_67 : decode cX5_readsEntry 67 = .ok (.iconst 1, 1) := by decide +kernel
theorem dX5_readsEntry_68 : decode cX5_readsEntry 68 = .ok (.iadd, 1) := by decide +kernel
theorem dX5_readsEntry_69 : decode cX5_readsEntry 69 = .ok (.aload_n 0, 1) := by decide +kernel
theorem dX5_readsEntry_70 : decode cX5_readsEntry 70 = .ok (.getfield 155, 3) := by decide +kernel
theorem dX5_readsEntry_73 : decode cX5_readsEntry 73 = .ok (.iastore, 1) := by decide +kernel
theorem dX5_readsEntry_74 : decode cX5_readsEntry 74 = .ok (.aload_n 0, 1) := by decide +kernel
theorem dX5_readsEntry_75 : decode cX5_readsEntry 75 = .ok (.getfield 25, 3) := by decide +kernel
theorem dX5_readsEntry_78 : decode cX5_readsEntry 78 = .ok (.iload_n 2, 1) := by decide +kernel
theorem dX5_readsEntry_79 : decode cX5_readsEntry 79 = .ok (.iconst 2, 1) := by decide +kernel
theorem dX5_readsEntry_80 : decode cX5_readsEntry 80 = .ok (.iadd, 1) := by decide +kernel
theorem dX5_readsEntry_81 : decode cX5_readsEntry 81 = .ok (.bipush (-9), 2) := by decide +kernel
theorem dX5_readsEntry_83 : decode cX5_readsEntry 83 = .ok (.iastore, 1) := by decide +kernel
theorem dX5_readsEntry_84 : decode cX5_readsEntry 84 = .ok (.aload_n 0, 1) := by decide +kernel
theorem dX5_readsEntry_85 : decode cX5_readsEntry 85 = .ok (.bipush 64, 2) := by decide +kernel
theorem dX5_readsEntry_87 : decode cX5_readsEntry 87 = .ok (.invokevirtual 165, 3) := by decide +kernel
theorem dX5_readsEntry_90 : decode cX5_readsEntry 90 = .ok (.ifCond .eq 13, 3) := by decide +kernel
theorem dX5_readsEntry_93 : decode cX5_readsEntry 93 = .ok (.aload_n 0, 1) := by decide +kernel
theorem dX5_readsEntry_94 : decode cX5_readsEntry 94 = .ok (.iload_n 2, 1) := by decide +kernel
theorem dX5_readsEntry_95 : decode cX5_readsEntry 95 = .ok (.invokevirtual 171, 3) := by decide +kernel
theorem dX5_readsEntry_98 : decode cX5_readsEntry 98 = .ok (.ifCond .ne 5, 3) := by decide +kernel
theorem dX5_readsEntry_101 : decode cX5_readsEntry 101 = .ok (.iconst 0, 1) := by decide +kernel
theorem dX5_readsEntry_102 : decode cX5_readsEntry 102 = .ok (.ireturn, 1) := by decide +kernel
theorem dX5_readsEntry_103 : decode cX5_readsEntry 103 = .ok (.aload_n 0, 1) := by decide +kernel
theorem dX5_readsEntry_104 : decode cX5_readsEntry 104 = .ok (.iconst 0, 1) := by decide +kernel
theorem dX5_readsEntry_105 : decode cX5_readsEntry 105 = .ok (.putfield 155, 3) := by decide +kernel
theorem dX5_readsEntry_108 : decode cX5_readsEntry 108 = .ok (.aload_n 0, 1) := by decide +kernel
theorem dX5_readsEntry_109 : decode cX5_readsEntry 109 = .ok (.bipush 33, 2) := by decide +kernel
theorem dX5_readsEntry_111 : decode cX5_readsEntry 111 = .ok (.invokevirtual 165, 3) := by decide +kernel
theorem dX5_readsEntry_114 : decode cX5_readsEntry 114 = .ok (.ifCond .eq 16, 3) := by decide +kernel
theorem dX5_readsEntry_117 : decode cX5_readsEntry 117 = .ok (.aload_n 0, 1) := by decide +kernel
theorem dX5_readsEntry_118 : decode cX5_readsEntry 118 = .ok (.iconst 1, 1) := by decide +kernel
theorem dX5_readsEntry_119 : decode cX5_readsEntry 119 = .ok (.iconst 0, 1) := by decide +kernel
theorem dX5_readsEntry_120 : decode cX5_readsEntry 120 = .ok (.bipush 9, 2) := by decide +kernel
theorem dX5_readsEntry_122 : decode cX5_readsEntry 122 = .ok (.invokevirtual 168, 3) := by decide +kernel
theorem dX5_readsEntry_125 : decode cX5_readsEntry 125 = .ok (.ifCond .ne 5, 3) := by decide +kernel
theorem dX5_readsEntry_128 : decode cX5_readsEntry 128 = .ok (.iconst 0, 1) := by decide +kernel
theorem dX5_readsEntry_129 : decode cX5_readsEntry 129 = .ok (.ireturn, 1) := by decide +kernel
theorem dX5_readsEntry_130 : decode cX5_readsEntry 130 = .ok (.aload_n 0, 1) := by decide +kernel
theorem dX5_readsEntry_131 : decode cX5_readsEntry 131 = .ok (.getfield 25, 3) := by decide +kernel
theorem dX5_readsEntry_134 : decode cX5_readsEntry 134 = .ok (.iload_n 2, 1) := by decide +kernel
theorem dX5_readsEntry_135 : decode cX5_readsEntry 135 = .ok (.iconst 3, 1) := by decide +kernel
theorem dX5_readsEntry_136 : decode cX5_readsEntry 136 = .ok (.iadd, 1) := by decide +kernel
theorem dX5_readsEntry_137 : decode cX5_readsEntry 137 = .ok (.aload_n 0, 1) := by decide +kernel
theorem dX5_readsEntry_138 : decode cX5_readsEntry 138 = .ok (.getfield 155, 3) := by decide +kernel
theorem dX5_readsEntry_141 : decode cX5_readsEntry 141 = .ok (.iastore, 1) := by decide +kernel
theorem dX5_readsEntry_142 : decode cX5_readsEntry 142 = .ok (.aload_n 0, 1) := by decide +kernel
theorem dX5_readsEntry_143 : decode cX5_readsEntry 143 = .ok (.bipush 59, 2) := by decide +kernel
theorem dX5_readsEntry_145 : decode cX5_readsEntry 145 = .ok (.invokevirtual 165, 3) := by decide +kernel
theorem dX5_readsEntry_148 : decode cX5_readsEntry 148 = .ok (.ireturn, 1) := by decide +kernel
theorem dX5_load_0 : decode cX5_load 0 = .ok (.aload_n 0, 1) := by decide +kernel
theorem dX5_load_1 : decode cX5_load 1 = .ok (.iconst 0, 1) := by decide +kernel
theorem dX5_load_2 : decode cX5_load 2 = .ok (.putfield 149, 3) := by decide +kernel
theorem dX5_load_5 : decode cX5_load 5 = .ok (.iconst 0, 1) := by decide +kernel
theorem dX5_load_6 : decode cX5_load 6 = .ok (.istore_n 1, 1) := by decide +kernel
theorem dX5_load_7 : decode cX5_load 7 = .ok (.aload_n 0, 1) := by decide +kernel
theorem dX5_load_8 : decode cX5_load 8 = .ok (.getfield 149, 3) := by decide +kernel
theorem dX5_load_11 : decode cX5_load 11 = .ok (.aload_n 0, 1) := by decide +kernel
theorem dX5_load_12 : decode cX5_load 12 = .ok (.getfield 146, 3) := by decide +kernel
theorem dX5_load_15 : decode cX5_load 15 = .ok (.if_icmp .ge 25, 3) := by decide +kernel
theorem dX5_load_18 : decode cX5_load 18 = .ok (.aload_n 0, 1) := by decide +kernel
theorem dX5_load_19 : decode cX5_load 19 = .ok (.iload_n 1, 1) := by decide +kernel
theorem dX5_load_20 : decode cX5_load 20 = .ok (.invokevirtual 174, 3) := by decide +kernel
theorem dX5_load_23 : decode cX5_load 23 = .ok (.ifCond .ne 11, 3) := by decide +kernel
theorem dX5_load_26 : decode cX5_load 26 = .ok (.bipush (-10), 2) := by decide +kernel
theorem dX5_load_28 : decode cX5_load 28 = .ok (.aload_n 0, 1) := by decide +kernel
theorem dX5_load_29 : decode cX5_load 29 = .ok (.getfield 149, 3) := by decide +kernel
theorem dX5_load_32 : decode cX5_load 32 = .ok (.isub, 1) := by decide +kernel
theorem dX5_load_33 : decode cX5_load 33 = .ok (.ireturn, 1) := by decide +kernel
theorem dX5_load_34 : decode cX5_load 34 = .ok (.iinc 1 1, 3) := by decide +kernel
theorem dX5_load_37 : decode cX5_load 37 = .ok (.goto (-30), 3) := by decide +kernel
theorem dX5_load_40 : decode cX5_load 40 = .ok (.aload_n 0, 1) := by decide +kernel
theorem dX5_load_41 : decode cX5_load 41 = .ok (.invokevirtual 53, 3) := by decide +kernel
theorem dX5_load_44 : decode cX5_load 44 = .ok (.aload_n 0, 1) := by decide +kernel
theorem dX5_load_45 : decode cX5_load 45 = .ok (.getfield 7, 3) := by decide +kernel
theorem dX5_load_48 : decode cX5_load 48 = .ok (.iconst 4, 1) := by decide +kernel
theorem dX5_load_49 : decode cX5_load 49 = .ok (.iload_n 1, 1) := by decide +kernel
theorem dX5_load_50 : decode cX5_load 50 = .ok (.iastore, 1) := by decide +kernel
theorem dX5_load_51 : decode cX5_load 51 = .ok (.iconst 0, 1) := by decide +kernel
theorem dX5_load_52 : decode cX5_load 52 = .ok (.istore_n 2, 1) := by decide +kernel
theorem dX5_load_53 : decode cX5_load 53 = .ok (.iload_n 2, 1) := by decide +kernel
theorem dX5_load_54 : decode cX5_load 54 = .ok (.iconst 4, 1) := by decide +kernel
theorem dX5_load_55 : decode cX5_load 55 = .ok (.iload_n 1, 1) := by decide +kernel
theorem dX5_load_56 : decode cX5_load 56 = .ok (.imul, 1) := by decide +kernel
theorem dX5_load_57 : decode cX5_load 57 = .ok (.if_icmp .ge 23, 3) := by decide +kernel
theorem dX5_load_60 : decode cX5_load 60 = .ok (.aload_n 0, 1) := by decide +kernel
theorem dX5_load_61 : decode cX5_load 61 = .ok (.getfield 7, 3) := by decide +kernel
theorem dX5_load_64 : decode cX5_load 64 = .ok (.iconst 5, 1) := by decide +kernel
theorem dX5_load_65 : decode cX5_load 65 = .ok (.iload_n 2, 1) := by decide +kernel
theorem dX5_load_66 : decode cX5_load 66 = .ok (.iadd, 1) := by decide +kernel
theorem dX5_load_67 : decode cX5_load 67 = .ok (.aload_n 0, 1) := by decide +kernel
theorem dX5_load_68 : decode cX5_load 68 = .ok (.getfield 25, 3) := by decide +kernel
theorem dX5_load_71 : decode cX5_load 71 = .ok (.iload_n 2, 1) := by decide +kernel
theorem dX5_load_72 : decode cX5_load 72 = .ok (.iaload, 1) := by decide +kernel
theorem dX5_load_73 : decode cX5_load 73 = .ok (.iastore, 1) := by decide +kernel
theorem dX5_load_74 : decode cX5_load 74 = .ok (.iinc 2 1, 3) := by decide +kernel
theorem dX5_load_77 : decode cX5_load 77 = .ok (.goto (-24), 3) := by decide +kernel
theorem dX5_load_80 : decode cX5_load 80 = .ok (.iload_n 1, 1) := by decide +kernel
theorem dX5_load_81 : decode cX5_load 81 = .ok (.ireturn, 1) := by decide +kernel
theorem dX5_isTime_0 : decode cX5_isTime 0 = .ok (.iload_n 0, 1) := by decide +kernel
theorem dX5_isTime_1 : decode cX5_isTime 1 = .ok (.bipush (-9), 2) := by decide +kernel
theorem dX5_isTime_3 : decode cX5_isTime 3 = .ok (.if_icmp .eq 14, 3) := by decide +kernel
theorem dX5_isTime_6 : decode cX5_isTime 6 = .ok (.iload_n 0, 1) := by decide +kernel
theorem dX5_isTime_7 : decode cX5_isTime 7 = .ok (.iconst 0, 1) := by decide +kernel
theorem dX5_isTime_8 : decode cX5_isTime 8 = .ok (.sipush 1439, 3) := by decide +kernel
theorem dX5_isTime_11 : decode cX5_isTime 11 = .ok (.invokestatic 32, 3) := by decide +kernel
theorem dX5_isTime_14 : decode cX5_isTime 14 = .ok (.ifCond .eq 7, 3) := by decide +kernel
theorem dX5_isTime_17 : decode cX5_isTime 17 = .ok (.iconst 1, 1) := by decide +kernel
theorem dX5_isTime_18 : decode cX5_isTime 18 = .ok (.goto 4, 3) := by decide +kernel
theorem dX5_isTime_21 : decode cX5_isTime 21 = .ok (.iconst 0, 1) := by decide +kernel
theorem dX5_isTime_22 : decode cX5_isTime 22 = .ok (.ireturn, 1) := by decide +kernel
theorem dX5_add_0 : decode cX5_add 0 = .ok (.iload_n 1, 1) := by decide +kernel
theorem dX5_add_1 : decode cX5_add 1 = .ok (.invokestatic 49, 3) := by decide +kernel
theorem dX5_add_4 : decode cX5_add 4 = .ok (.ifCond .eq 32, 3) := by decide +kernel
theorem dX5_add_7 : decode cX5_add 7 = .ok (.iload_n 2, 1) := by decide +kernel
theorem dX5_add_8 : decode cX5_add 8 = .ok (.iload_n 1, 1) := by decide +kernel
theorem dX5_add_9 : decode cX5_add 9 = .ok (.sipush 999, 3) := by decide +kernel
theorem dX5_add_12 : decode cX5_add 12 = .ok (.invokestatic 32, 3) := by decide +kernel
theorem dX5_add_15 : decode cX5_add 15 = .ok (.ifCond .eq 21, 3) := by decide +kernel
theorem dX5_add_18 : decode cX5_add 18 = .ok (.iload_n 3, 1) := by decide +kernel
theorem dX5_add_19 : decode cX5_add 19 = .ok (.invokestatic 177, 3) := by decide +kernel
theorem dX5_add_22 : decode cX5_add 22 = .ok (.ifCond .eq 14, 3) := by decide +kernel
theorem dX5_add_25 : decode cX5_add 25 = .ok (.iload 4, 2) := by decide +kernel
theorem dX5_add_27 : decode cX5_add 27 = .ok (.iconst 0, 1) := by decide +kernel
theorem dX5_add_28 : decode cX5_add 28 = .ok (.bipush 9, 2) := by decide +kernel
theorem dX5_add_30 : decode cX5_add 30 = .ok (.invokestatic 32, 3) := by decide +kernel
theorem dX5_add_33 : decode cX5_add 33 = .ok (.ifCond .ne 5, 3) := by decide +kernel
theorem dX5_add_36 : decode cX5_add 36 = .ok (.iconst (-1), 1) := by decide +kernel
theorem dX5_add_37 : decode cX5_add 37 = .ok (.ireturn, 1) := by decide +kernel
theorem dX5_add_38 : decode cX5_add 38 = .ok (.aload_n 0, 1) := by decide +kernel
theorem dX5_add_39 : decode cX5_add 39 = .ok (.getfield 7, 3) := by decide +kernel
theorem dX5_add_42 : decode cX5_add 42 = .ok (.iconst 4, 1) := by decide +kernel
theorem dX5_add_43 : decode cX5_add 43 = .ok (.iaload, 1) := by decide +kernel
theorem dX5_add_44 : decode cX5_add 44 = .ok (.bipush 24, 2) := by decide +kernel
theorem dX5_add_46 : decode cX5_add 46 = .ok (.if_icmp .ne 6, 3) := by decide +kernel
theorem dX5_add_49 : decode cX5_add 49 = .ok (.bipush (-3), 2) := by decide +kernel
theorem dX5_add_51 : decode cX5_add 51 = .ok (.ireturn, 1) := by decide +kernel
theorem dX5_add_52 : decode cX5_add 52 = .ok (.aload_n 0, 1) := by decide +kernel
theorem dX5_add_53 : decode cX5_add 53 = .ok (.invokevirtual 53, 3) := by decide +kernel
theorem dX5_add_56 : decode cX5_add 56 = .ok (.aload_n 0, 1) := by decide +kernel
theorem dX5_add_57 : decode cX5_add 57 = .ok (.getfield 7, 3) := by decide +kernel
theorem dX5_add_60 : decode cX5_add 60 = .ok (.iconst 4, 1) := by decide +kernel
theorem dX5_add_61 : decode cX5_add 61 = .ok (.iaload, 1) := by decide +kernel
theorem dX5_add_62 : decode cX5_add 62 = .ok (.istore 5, 2) := by decide +kernel
theorem dX5_add_64 : decode cX5_add 64 = .ok (.aload_n 0, 1) := by decide +kernel
theorem dX5_add_65 : decode cX5_add 65 = .ok (.getfield 7, 3) := by decide +kernel
theorem dX5_add_68 : decode cX5_add 68 = .ok (.iconst 5, 1) := by decide +kernel
theorem dX5_add_69 : decode cX5_add 69 = .ok (.iconst 4, 1) := by decide +kernel
theorem dX5_add_70 : decode cX5_add 70 = .ok (.iload 5, 2) := by decide +kernel
theorem dX5_add_72 : decode cX5_add 72 = .ok (.imul, 1) := by decide +kernel
theorem dX5_add_73 : decode cX5_add 73 = .ok (.iadd, 1) := by decide +kernel
theorem dX5_add_74 : decode cX5_add 74 = .ok (.iload_n 1, 1) := by decide +kernel
theorem dX5_add_75 : decode cX5_add 75 = .ok (.iastore, 1) := by decide +kernel
theorem dX5_add_76 : decode cX5_add 76 = .ok (.aload_n 0, 1) := by decide +kernel
theorem dX5_add_77 : decode cX5_add 77 = .ok (.getfield 7, 3) := by decide +kernel
theorem dX5_add_80 : decode cX5_add 80 = .ok (.iconst 5, 1) := by decide +kernel
theorem dX5_add_81 : decode cX5_add 81 = .ok (.iconst 4, 1) := by decide +kernel
theorem dX5_add_82 : decode cX5_add 82 = .ok (.iload 5, 2) := by decide +kernel
theorem dX5_add_84 : decode cX5_add 84 = .ok (.imul, 1) := by decide +kernel
theorem dX5_add_85 : decode cX5_add 85 = .ok (.iadd, 1) := by decide +kernel
theorem dX5_add_86 : decode cX5_add 86 = .ok (.iconst 1, 1) := by decide +kernel
theorem dX5_add_87 : decode cX5_add 87 = .ok (.iadd, 1) := by decide +kernel
theorem dX5_add_88 : decode cX5_add 88 = .ok (.iload_n 2, 1) := by decide +kernel
theorem dX5_add_89 : decode cX5_add 89 = .ok (.iastore, 1) := by decide +kernel
theorem dX5_add_90 : decode cX5_add 90 = .ok (.aload_n 0, 1) := by decide +kernel
theorem dX5_add_91 : decode cX5_add 91 = .ok (.getfield 7, 3) := by decide +kernel
theorem dX5_add_94 : decode cX5_add 94 = .ok (.iconst 5, 1) := by decide +kernel
theorem dX5_add_95 : decode cX5_add 95 = .ok (.iconst 4, 1) := by decide +kernel
theorem dX5_add_96 : decode cX5_add 96 = .ok (.iload 5, 2) := by decide +kernel
theorem dX5_add_98 : decode cX5_add 98 = .ok (.imul, 1) := by decide +kernel
theorem dX5_add_99 : decode cX5_add 99 = .ok (.iadd, 1) := by decide +kernel
theorem dX5_add_100 : decode cX5_add 100 = .ok (.iconst 2, 1) := by decide +kernel
theorem dX5_add_101 : decode cX5_add 101 = .ok (.iadd, 1) := by decide +kernel
theorem dX5_add_102 : decode cX5_add 102 = .ok (.iload_n 3, 1) := by decide +kernel
theorem dX5_add_103 : decode cX5_add 103 = .ok (.iastore, 1) := by decide +kernel
theorem dX5_add_104 : decode cX5_add 104 = .ok (.aload_n 0, 1) := by decide +kernel
theorem dX5_add_105 : decode cX5_add 105 = .ok (.getfield 7, 3) := by decide +kernel
theorem dX5_add_108 : decode cX5_add 108 = .ok (.iconst 5, 1) := by decide +kernel
theorem dX5_add_109 : decode cX5_add 109 = .ok (.iconst 4, 1) := by decide +kernel
theorem dX5_add_110 : decode cX5_add 110 = .ok (.iload 5, 2) := by decide +kernel
theorem dX5_add_112 : decode cX5_add 112 = .ok (.imul, 1) := by decide +kernel
theorem dX5_add_113 : decode cX5_add 113 = .ok (.iadd, 1) := by decide +kernel
theorem dX5_add_114 : decode cX5_add 114 = .ok (.iconst 3, 1) := by decide +kernel
theorem dX5_add_115 : decode cX5_add 115 = .ok (.iadd, 1) := by decide +kernel
theorem dX5_add_116 : decode cX5_add 116 = .ok (.iload 4, 2) := by decide +kernel
theorem dX5_add_118 : decode cX5_add 118 = .ok (.iastore, 1) := by decide +kernel
theorem dX5_add_119 : decode cX5_add 119 = .ok (.aload_n 0, 1) := by decide +kernel
theorem dX5_add_120 : decode cX5_add 120 = .ok (.getfield 7, 3) := by decide +kernel
theorem dX5_add_123 : decode cX5_add 123 = .ok (.iconst 4, 1) := by decide +kernel
theorem dX5_add_124 : decode cX5_add 124 = .ok (.dup2, 1) := by decide +kernel
theorem dX5_add_125 : decode cX5_add 125 = .ok (.iaload, 1) := by decide +kernel
theorem dX5_add_126 : decode cX5_add 126 = .ok (.iconst 1, 1) := by decide +kernel
theorem dX5_add_127 : decode cX5_add 127 = .ok (.iadd, 1) := by decide +kernel
theorem dX5_add_128 : decode cX5_add 128 = .ok (.iastore, 1) := by decide +kernel
theorem dX5_add_129 : decode cX5_add 129 = .ok (.iload 5, 2) := by decide +kernel
theorem dX5_add_131 : decode cX5_add 131 = .ok (.ireturn, 1) := by decide +kernel
theorem dX5_drop_0 : decode cX5_drop 0 = .ok (.aload_n 0, 1) := by decide +kernel
theorem dX5_drop_1 : decode cX5_drop 1 = .ok (.iload_n 1, 1) := by decide +kernel
theorem dX5_drop_2 : decode cX5_drop 2 = .ok (.invokevirtual 180, 3) := by decide +kernel
theorem dX5_drop_5 : decode cX5_drop 5 = .ok (.ifCond .ne 5, 3) := by decide +kernel
theorem dX5_drop_8 : decode cX5_drop 8 = .ok (.iconst (-1), 1) := by decide +kernel
theorem dX5_drop_9 : decode cX5_drop 9 = .ok (.ireturn, 1) := by decide +kernel
theorem dX5_drop_10 : decode cX5_drop 10 = .ok (.aload_n 0, 1) := by decide +kernel
theorem dX5_drop_11 : decode cX5_drop 11 = .ok (.invokevirtual 53, 3) := by decide +kernel
theorem dX5_drop_14 : decode cX5_drop 14 = .ok (.aload_n 0, 1) := by decide +kernel
theorem dX5_drop_15 : decode cX5_drop 15 = .ok (.getfield 7, 3) := by decide +kernel
theorem dX5_drop_18 : decode cX5_drop 18 = .ok (.iconst 4, 1) := by decide +kernel
theorem dX5_drop_19 : decode cX5_drop 19 = .ok (.dup2, 1) := by decide +kernel
theorem dX5_drop_20 : decode cX5_drop 20 = .ok (.iaload, 1) := by decide +kernel
theorem dX5_drop_21 : decode cX5_drop 21 = .ok (.iconst 1, 1) := by decide +kernel
theorem dX5_drop_22 : decode cX5_drop 22 = .ok (.isub, 1) := by decide +kernel
theorem dX5_drop_23 : decode cX5_drop 23 = .ok (.iastore, 1) := by decide +kernel
theorem dX5_drop_24 : decode cX5_drop 24 = .ok (.iconst 5, 1) := by decide +kernel
theorem dX5_drop_25 : decode cX5_drop 25 = .ok (.iconst 4, 1) := by decide +kernel
theorem dX5_drop_26 : decode cX5_drop 26 = .ok (.iload_n 1, 1) := by decide +kernel
theorem dX5_drop_27 : decode cX5_drop 27 = .ok (.imul, 1) := by decide +kernel
theorem dX5_drop_28 : decode cX5_drop 28 = .ok (.iadd, 1) := by decide +kernel
theorem dX5_drop_29 : decode cX5_drop 29 = .ok (.istore_n 2, 1) := by decide +kernel
theorem dX5_drop_30 : decode cX5_drop 30 = .ok (.iload_n 2, 1) := by decide +kernel
theorem dX5_drop_31 : decode cX5_drop 31 = .ok (.iconst 5, 1) := by decide +kernel
theorem dX5_drop_32 : decode cX5_drop 32 = .ok (.iconst 4, 1) := by decide +kernel
theorem dX5_drop_33 : decode cX5_drop 33 = .ok (.aload_n 0, 1) := by decide +kernel
theorem dX5_drop_34 : decode cX5_drop 34 = .ok (.getfield 7, 3) := by decide +kernel
theorem dX5_drop_37 : decode cX5_drop 37 = .ok (.iconst 4, 1) := by decide +kernel
theorem dX5_drop_38 : decode cX5_drop 38 = .ok (.iaload, 1) := by decide +kernel
theorem dX5_drop_39 : decode cX5_drop 39 = .ok (.imul, 1) := by decide +kernel
theorem dX5_drop_40 : decode cX5_drop 40 = .ok (.iadd, 1) := by decide +kernel
theorem dX5_drop_41 : decode cX5_drop 41 = .ok (.if_icmp .ge 23, 3) := by decide +kernel
theorem dX5_drop_44 : decode cX5_drop 44 = .ok (.aload_n 0, 1) := by decide +kernel
theorem dX5_drop_45 : decode cX5_drop 45 = .ok (.getfield 7, 3) := by decide +kernel
theorem dX5_drop_48 : decode cX5_drop 48 = .ok (.iload_n 2, 1) := by decide +kernel
theorem dX5_drop_49 : decode cX5_drop 49 = .ok (.aload_n 0, 1) := by decide +kernel
theorem dX5_drop_50 : decode cX5_drop 50 = .ok (.getfield 7, 3) := by decide +kernel
theorem dX5_drop_53 : decode cX5_drop 53 = .ok (.iload_n 2, 1) := by decide +kernel
theorem dX5_drop_54 : decode cX5_drop 54 = .ok (.iconst 4, 1) := by decide +kernel
theorem dX5_drop_55 : decode cX5_drop 55 = .ok (.iadd, 1) := by decide +kernel
theorem dX5_drop_56 : decode cX5_drop 56 = .ok (.iaload, 1) := by decide +kernel
theorem dX5_drop_57 : decode cX5_drop 57 = .ok (.iastore, 1) := by decide +kernel
theorem dX5_drop_58 : decode cX5_drop 58 = .ok (.iinc 2 1, 3) := by decide +kernel
theorem dX5_drop_61 : decode cX5_drop 61 = .ok (.goto (-31), 3) := by decide +kernel
theorem dX5_drop_64 : decode cX5_drop 64 = .ok (.aload_n 0, 1) := by decide +kernel
theorem dX5_drop_65 : decode cX5_drop 65 = .ok (.getfield 7, 3) := by decide +kernel
theorem dX5_drop_68 : decode cX5_drop 68 = .ok (.iconst 4, 1) := by decide +kernel
theorem dX5_drop_69 : decode cX5_drop 69 = .ok (.iaload, 1) := by decide +kernel
theorem dX5_drop_70 : decode cX5_drop 70 = .ok (.ireturn, 1) := by decide +kernel
theorem dX5_moves_0 : decode cX5_moves 0 = .ok (.aload_n 0, 1) := by decide +kernel
theorem dX5_moves_1 : decode cX5_moves 1 = .ok (.getfield 7, 3) := by decide +kernel
theorem dX5_moves_4 : decode cX5_moves 4 = .ok (.iconst 5, 1) := by decide +kernel
theorem dX5_moves_5 : decode cX5_moves 5 = .ok (.iconst 4, 1) := by decide +kernel
theorem dX5_moves_6 : decode cX5_moves 6 = .ok (.iload_n 1, 1) := by decide +kernel
theorem dX5_moves_7 : decode cX5_moves 7 = .ok (.imul, 1) := by decide +kernel
theorem dX5_moves_8 : decode cX5_moves 8 = .ok (.iadd, 1) := by decide +kernel
theorem dX5_moves_9 : decode cX5_moves 9 = .ok (.dup2, 1) := by decide +kernel
theorem dX5_moves_10 : decode cX5_moves 10 = .ok (.iaload, 1) := by decide +kernel
theorem dX5_moves_11 : decode cX5_moves 11 = .ok (.iload_n 2, 1) := by decide +kernel
theorem dX5_moves_12 : decode cX5_moves 12 = .ok (.iadd, 1) := by decide +kernel
theorem dX5_moves_13 : decode cX5_moves 13 = .ok (.iastore, 1) := by decide +kernel
theorem dX5_moves_14 : decode cX5_moves 14 = .ok (.aload_n 0, 1) := by decide +kernel
theorem dX5_moves_15 : decode cX5_moves 15 = .ok (.getfield 7, 3) := by decide +kernel
theorem dX5_moves_18 : decode cX5_moves 18 = .ok (.iconst 5, 1) := by decide +kernel
theorem dX5_moves_19 : decode cX5_moves 19 = .ok (.iconst 4, 1) := by decide +kernel
theorem dX5_moves_20 : decode cX5_moves 20 = .ok (.iload_n 1, 1) := by decide +kernel
theorem dX5_moves_21 : decode cX5_moves 21 = .ok (.imul, 1) := by decide +kernel
theorem dX5_moves_22 : decode cX5_moves 22 = .ok (.iadd, 1) := by decide +kernel
theorem dX5_moves_23 : decode cX5_moves 23 = .ok (.iconst 1, 1) := by decide +kernel
theorem dX5_moves_24 : decode cX5_moves 24 = .ok (.iadd, 1) := by decide +kernel
theorem dX5_moves_25 : decode cX5_moves 25 = .ok (.dup2, 1) := by decide +kernel
theorem dX5_moves_26 : decode cX5_moves 26 = .ok (.iaload, 1) := by decide +kernel
theorem dX5_moves_27 : decode cX5_moves 27 = .ok (.iload_n 2, 1) := by decide +kernel
theorem dX5_moves_28 : decode cX5_moves 28 = .ok (.iadd, 1) := by decide +kernel
theorem dX5_moves_29 : decode cX5_moves 29 = .ok (.iastore, 1) := by decide +kernel
theorem dX5_moves_30 : decode cX5_moves 30 = .ok (.return_, 1) := by decide +kernel
theorem dX5_move_0 : decode cX5_move 0 = .ok (.aload_n 0, 1) := by decide +kernel
theorem dX5_move_1 : decode cX5_move 1 = .ok (.iload_n 1, 1) := by decide +kernel
theorem dX5_move_2 : decode cX5_move 2 = .ok (.invokevirtual 180, 3) := by decide +kernel
theorem dX5_move_5 : decode cX5_move 5 = .ok (.ifCond .eq 16, 3) := by decide +kernel
theorem dX5_move_8 : decode cX5_move 8 = .ok (.iload_n 2, 1) := by decide +kernel
theorem dX5_move_9 : decode cX5_move 9 = .ok (.sipush (-999), 3) := by decide +kernel
theorem dX5_move_12 : decode cX5_move 12 = .ok (.sipush 999, 3) := by decide +kernel
theorem dX5_move_15 : decode cX5_move 15 = .ok (.invokestatic 32, 3) := by decide +kernel
theorem dX5_move_18 : decode cX5_move 18 = .ok (.ifCond .ne 5, 3) := by decide +kernel
theorem dX5_move_21 : decode cX5_move 21 = .ok (.iconst (-1), 1) := by decide +kernel
theorem dX5_move_22 : decode cX5_move 22 = .ok (.ireturn, 1) := by decide +kernel
theorem dX5_move_23 : decode cX5_move 23 = .ok (.aload_n 0, 1) := by decide +kernel
theorem dX5_move_24 : decode cX5_move 24 = .ok (.iload_n 1, 1) := by decide +kernel
theorem dX5_move_25 : decode cX5_move 25 = .ok (.invokevirtual 40, 3) := by decide +kernel
theorem dX5_move_28 : decode cX5_move 28 = .ok (.iload_n 2, 1) := by decide +kernel
theorem dX5_move_29 : decode cX5_move 29 = .ok (.iadd, 1) := by decide +kernel
theorem dX5_move_30 : decode cX5_move 30 = .ok (.ifCond .lt 16, 3) := by decide +kernel
theorem dX5_move_33 : decode cX5_move 33 = .ok (.aload_n 0, 1) := by decide +kernel
theorem dX5_move_34 : decode cX5_move 34 = .ok (.iload_n 1, 1) := by decide +kernel
theorem dX5_move_35 : decode cX5_move 35 = .ok (.invokevirtual 36, 3) := by decide +kernel
theorem dX5_move_38 : decode cX5_move 38 = .ok (.iload_n 2, 1) := by decide +kernel
theorem dX5_move_39 : decode cX5_move 39 = .ok (.iadd, 1) := by decide +kernel
theorem dX5_move_40 : decode cX5_move 40 = .ok (.sipush 999, 3) := by decide +kernel
theorem dX5_move_43 : decode cX5_move 43 = .ok (.if_icmp .le 6, 3) := by decide +kernel
theorem dX5_move_46 : decode cX5_move 46 = .ok (.bipush (-2), 2) := by decide +kernel
theorem dX5_move_48 : decode cX5_move 48 = .ok (.ireturn, 1) := by decide +kernel
theorem dX5_move_49 : decode cX5_move 49 = .ok (.aload_n 0, 1) := by decide +kernel
theorem dX5_move_50 : decode cX5_move 50 = .ok (.invokevirtual 53, 3) := by decide +kernel
theorem dX5_move_53 : decode cX5_move 53 = .ok (.aload_n 0, 1) := by decide +kernel
theorem dX5_move_54 : decode cX5_move 54 = .ok (.iload_n 1, 1) := by decide +kernel
theorem dX5_move_55 : decode cX5_move 55 = .ok (.iload_n 2, 1) := by decide +kernel
theorem dX5_move_56 : decode cX5_move 56 = .ok (.invokevirtual 183, 3) := by decide +kernel
theorem dX5_move_59 : decode cX5_move 59 = .ok (.aload_n 0, 1) := by decide +kernel
theorem dX5_move_60 : decode cX5_move 60 = .ok (.iload_n 1, 1) := by decide +kernel
theorem dX5_move_61 : decode cX5_move 61 = .ok (.invokevirtual 40, 3) := by decide +kernel
theorem dX5_move_64 : decode cX5_move 64 = .ok (.ireturn, 1) := by decide +kernel
theorem dX5_stretch_0 : decode cX5_stretch 0 = .ok (.aload_n 0, 1) := by decide +kernel
theorem dX5_stretch_1 : decode cX5_stretch 1 = .ok (.iload_n 1, 1) := by decide +kernel
theorem dX5_stretch_2 : decode cX5_stretch 2 = .ok (.invokevirtual 180, 3) := by decide +kernel
theorem dX5_stretch_5 : decode cX5_stretch 5 = .ok (.ifCond .eq 10, 3) := by decide +kernel
theorem dX5_stretch_8 : decode cX5_stretch 8 = .ok (.iload_n 2, 1) := by decide +kernel
theorem dX5_stretch_9 : decode cX5_stretch 9 = .ok (.invokestatic 49, 3) := by decide +kernel
theorem dX5_stretch_12 : decode cX5_stretch 12 = .ok (.ifCond .ne 5, 3) := by decide +kernel
theorem dX5_stretch_15 : decode cX5_stretch 15 = .ok (.iconst (-1), 1) := by decide +kernel
theorem dX5_stretch_16 : decode cX5_stretch 16 = .ok (.ireturn, 1) := by decide +kernel
theorem dX5_stretch_17 : decode cX5_stretch 17 = .ok (.iload_n 2, 1) := by decide +kernel
theorem dX5_stretch_18 : decode cX5_stretch 18 = .ok (.aload_n 0, 1) := by decide +kernel
theorem dX5_stretch_19 : decode cX5_stretch 19 = .ok (.iload_n 1, 1) := by decide +kernel
theorem dX5_stretch_20 : decode cX5_stretch 20 = .ok (.invokevirtual 40, 3) := by decide +kernel
theorem dX5_stretch_23 : decode cX5_stretch 23 = .ok (.if_icmp .ge 6, 3) := by decide +kernel
theorem dX5_stretch_26 : decode cX5_stretch 26 = .ok (.bipush (-2), 2) := by decide +kernel
theorem dX5_stretch_28 : decode cX5_stretch 28 = .ok (.ireturn, 1) := by decide +kernel
theorem dX5_stretch_29 : decode cX5_stretch 29 = .ok (.aload_n 0, 1) := by decide +kernel
theorem dX5_stretch_30 : decode cX5_stretch 30 = .ok (.invokevirtual 53, 3) := by decide +kernel
theorem dX5_stretch_33 : decode cX5_stretch 33 = .ok (.aload_n 0, 1) := by decide +kernel
theorem dX5_stretch_34 : decode cX5_stretch 34 = .ok (.getfield 7, 3) := by decide +kernel
theorem dX5_stretch_37 : decode cX5_stretch 37 = .ok (.iconst 5, 1) := by decide +kernel
theorem dX5_stretch_38 : decode cX5_stretch 38 = .ok (.iconst 4, 1) := by decide +kernel
theorem dX5_stretch_39 : decode cX5_stretch 39 = .ok (.iload_n 1, 1) := by decide +kernel
theorem dX5_stretch_40 : decode cX5_stretch 40 = .ok (.imul, 1) := by decide +kernel
theorem dX5_stretch_41 : decode cX5_stretch 41 = .ok (.iadd, 1) := by decide +kernel
theorem dX5_stretch_42 : decode cX5_stretch 42 = .ok (.iconst 1, 1) := by decide +kernel
theorem dX5_stretch_43 : decode cX5_stretch 43 = .ok (.iadd, 1) := by decide +kernel
theorem dX5_stretch_44 : decode cX5_stretch 44 = .ok (.iload_n 2, 1) := by decide +kernel
theorem dX5_stretch_45 : decode cX5_stretch 45 = .ok (.iastore, 1) := by decide +kernel
theorem dX5_stretch_46 : decode cX5_stretch 46 = .ok (.iload_n 2, 1) := by decide +kernel
theorem dX5_stretch_47 : decode cX5_stretch 47 = .ok (.aload_n 0, 1) := by decide +kernel
theorem dX5_stretch_48 : decode cX5_stretch 48 = .ok (.iload_n 1, 1) := by decide +kernel
theorem dX5_stretch_49 : decode cX5_stretch 49 = .ok (.invokevirtual 40, 3) := by decide +kernel
theorem dX5_stretch_52 : decode cX5_stretch 52 = .ok (.isub, 1) := by decide +kernel
theorem dX5_stretch_53 : decode cX5_stretch 53 = .ok (.iconst 1, 1) := by decide +kernel
theorem dX5_stretch_54 : decode cX5_stretch 54 = .ok (.iadd, 1) := by decide +kernel
theorem dX5_stretch_55 : decode cX5_stretch 55 = .ok (.ireturn, 1) := by decide +kernel
theorem dX5_settle_0 : decode cX5_settle 0 = .ok (.aload_n 0, 1) := by decide +kernel
theorem dX5_settle_1 : decode cX5_settle 1 = .ok (.iload_n 1, 1) := by decide +kernel
theorem dX5_settle_2 : decode cX5_settle 2 = .ok (.invokevirtual 180, 3) := by decide +kernel
theorem dX5_settle_5 : decode cX5_settle 5 = .ok (.ifCond .eq 20, 3) := by decide +kernel
theorem dX5_settle_8 : decode cX5_settle 8 = .ok (.iload_n 2, 1) := by decide +kernel
theorem dX5_settle_9 : decode cX5_settle 9 = .ok (.invokestatic 177, 3) := by decide +kernel
theorem dX5_settle_12 : decode cX5_settle 12 = .ok (.ifCond .eq 13, 3) := by decide +kernel
theorem dX5_settle_15 : decode cX5_settle 15 = .ok (.iload_n 3, 1) := by decide +kernel
theorem dX5_settle_16 : decode cX5_settle 16 = .ok (.iconst 0, 1) := by decide +kernel
theorem dX5_settle_17 : decode cX5_settle 17 = .ok (.bipush 9, 2) := by decide +kernel
theorem dX5_settle_19 : decode cX5_settle 19 = .ok (.invokestatic 32, 3) := by decide +kernel
theorem dX5_settle_22 : decode cX5_settle 22 = .ok (.ifCond .ne 5, 3) := by decide +kernel
theorem dX5_settle_25 : decode cX5_settle 25 = .ok (.iconst (-1), 1) := by decide +kernel
theorem dX5_settle_26 : decode cX5_settle 26 = .ok (.ireturn, 1) := by decide +kernel
theorem dX5_settle_27 : decode cX5_settle 27 = .ok (.aload_n 0, 1) := by decide +kernel
theorem dX5_settle_28 : decode cX5_settle 28 = .ok (.invokevirtual 53, 3) := by decide +kernel
theorem dX5_settle_31 : decode cX5_settle 31 = .ok (.aload_n 0, 1) := by decide +kernel
theorem dX5_settle_32 : decode cX5_settle 32 = .ok (.getfield 7, 3) := by decide +kernel
theorem dX5_settle_35 : decode cX5_settle 35 = .ok (.iconst 5, 1) := by decide +kernel
theorem dX5_settle_36 : decode cX5_settle 36 = .ok (.iconst 4, 1) := by decide +kernel
theorem dX5_settle_37 : decode cX5_settle 37 = .ok (.iload_n 1, 1) := by decide +kernel
theorem dX5_settle_38 : decode cX5_settle 38 = .ok (.imul, 1) := by decide +kernel
theorem dX5_settle_39 : decode cX5_settle 39 = .ok (.iadd, 1) := by decide +kernel
theorem dX5_settle_40 : decode cX5_settle 40 = .ok (.iconst 2, 1) := by decide +kernel
theorem dX5_settle_41 : decode cX5_settle 41 = .ok (.iadd, 1) := by decide +kernel
theorem dX5_settle_42 : decode cX5_settle 42 = .ok (.iload_n 2, 1) := by decide +kernel
theorem dX5_settle_43 : decode cX5_settle 43 = .ok (.iastore, 1) := by decide +kernel
theorem dX5_settle_44 : decode cX5_settle 44 = .ok (.aload_n 0, 1) := by decide +kernel
theorem dX5_settle_45 : decode cX5_settle 45 = .ok (.getfield 7, 3) := by decide +kernel
theorem dX5_settle_48 : decode cX5_settle 48 = .ok (.iconst 5, 1) := by decide +kernel
theorem dX5_settle_49 : decode cX5_settle 49 = .ok (.iconst 4, 1) := by decide +kernel
theorem dX5_settle_50 : decode cX5_settle 50 = .ok (.iload_n 1, 1) := by decide +kernel
theorem dX5_settle_51 : decode cX5_settle 51 = .ok (.imul, 1) := by decide +kernel
theorem dX5_settle_52 : decode cX5_settle 52 = .ok (.iadd, 1) := by decide +kernel
theorem dX5_settle_53 : decode cX5_settle 53 = .ok (.iconst 3, 1) := by decide +kernel
theorem dX5_settle_54 : decode cX5_settle 54 = .ok (.iadd, 1) := by decide +kernel
theorem dX5_settle_55 : decode cX5_settle 55 = .ok (.iload_n 3, 1) := by decide +kernel
theorem dX5_settle_56 : decode cX5_settle 56 = .ok (.iastore, 1) := by decide +kernel
theorem dX5_settle_57 : decode cX5_settle 57 = .ok (.aload_n 0, 1) := by decide +kernel
theorem dX5_settle_58 : decode cX5_settle 58 = .ok (.iload_n 1, 1) := by decide +kernel
theorem dX5_settle_59 : decode cX5_settle 59 = .ok (.invokevirtual 73, 3) := by decide +kernel
theorem dX5_settle_62 : decode cX5_settle 62 = .ok (.ifCond .eq 7, 3) := by decide +kernel
theorem dX5_settle_65 : decode cX5_settle 65 = .ok (.iconst 1, 1) := by decide +kernel
theorem dX5_settle_66 : decode cX5_settle 66 = .ok (.goto 4, 3) := by decide +kernel
theorem dX5_settle_69 : decode cX5_settle 69 = .ok (.iconst 0, 1) := by decide +kernel
theorem dX5_settle_70 : decode cX5_settle 70 = .ok (.ireturn, 1) := by decide +kernel
theorem dX5_daysOf_0 : decode cX5_daysOf 0 = .ok (.iconst 0, 1) := by decide +kernel
theorem dX5_daysOf_1 : decode cX5_daysOf 1 = .ok (.istore_n 3, 1) := by decide +kernel
theorem dX5_daysOf_2 : decode cX5_daysOf 2 = .ok (.aload_n 0, 1) := by decide +kernel
theorem dX5_daysOf_3 : decode cX5_daysOf 3 = .ok (.getfield 7, 3) := by decide +kernel
theorem dX5_daysOf_6 : decode cX5_daysOf 6 = .ok (.iconst 0, 1) := by decide +kernel
theorem dX5_daysOf_7 : decode cX5_daysOf 7 = .ok (.iaload, 1) := by decide +kernel
theorem dX5_daysOf_8 : decode cX5_daysOf 8 = .ok (.istore 4, 2) := by decide +kernel
theorem dX5_daysOf_10 : decode cX5_daysOf 10 = .ok (.iload 4, 2) := by decide +kernel
theorem dX5_daysOf_12 : decode cX5_daysOf 12 = .ok (.aload_n 0, 1) := by decide +kernel
theorem dX5_daysOf_13 : decode cX5_daysOf 13 = .ok (.getfield 7, 3) := by decide +kernel
theorem dX5_daysOf_16 : decode cX5_daysOf 16 = .ok (.iconst 1, 1) := by decide +kernel
theorem dX5_daysOf_17 : decode cX5_daysOf 17 = .ok (.iaload, 1) := by decide +kernel
theorem dX5_daysOf_18 : decode cX5_daysOf 18 = .ok (.if_icmp .gt 53, 3) := by decide +kernel
theorem dX5_daysOf_21 : decode cX5_daysOf 21 = .ok (.iload_n 3, 1) := by decide +kernel
theorem dX5_daysOf_22 : decode cX5_daysOf 22 = .ok (.aload_n 0, 1) := by decide +kernel
theorem dX5_daysOf_23 : decode cX5_daysOf 23 = .ok (.iload_n 1, 1) := by decide +kernel
theorem dX5_daysOf_24 : decode cX5_daysOf 24 = .ok (.iload 4, 2) := by decide +kernel
theorem dX5_daysOf_26 : decode cX5_daysOf 26 = .ok (.invokevirtual 86, 3) := by decide +kernel
theorem dX5_daysOf_29 : decode cX5_daysOf 29 = .ok (.ifCond .eq 33, 3) := by decide +kernel
theorem dX5_daysOf_32 : decode cX5_daysOf 32 = .ok (.iload_n 2, 1) := by decide +kernel
theorem dX5_daysOf_33 : decode cX5_daysOf 33 = .ok (.ifCond .eq 25, 3) := by decide +kernel
theorem dX5_daysOf_36 : decode cX5_daysOf 36 = .ok (.aload_n 0, 1) := by decide +kernel
theorem dX5_daysOf_37 : decode cX5_daysOf 37 = .ok (.iload_n 1, 1) := by decide +kernel
theorem dX5_daysOf_38 : decode cX5_daysOf 38 = .ok (.iload 4, 2) := by decide +kernel
theorem dX5_daysOf_40 : decode cX5_daysOf 40 = .ok (.invokevirtual 89, 3) := by decide +kernel
theorem dX5_daysOf_43 : decode cX5_daysOf 43 = .ok (.aload_n 0, 1) := by decide +kernel
theorem dX5_daysOf_44 : decode cX5_daysOf 44 = .ok (.iload 4, 2) := by decide +kernel
theorem dX5_daysOf_46 : decode cX5_daysOf 46 = .ok (.aload_n 0, 1) := by decide +kernel
theorem dX5_daysOf_47 : decode cX5_daysOf 47 = .ok (.getfield 7, 3) := by decide +kernel
theorem dX5_daysOf_50 : decode cX5_daysOf 50 = .ok (.iconst 3, 1) := by decide +kernel
theorem dX5_daysOf_51 : decode cX5_daysOf 51 = .ok (.iaload, 1) := by decide +kernel
theorem dX5_daysOf_52 : decode cX5_daysOf 52 = .ok (.invokevirtual 118, 3) := by decide +kernel
theorem dX5_daysOf_55 : decode cX5_daysOf 55 = .ok (.if_icmp .lt 7, 3) := by decide +kernel
theorem dX5_daysOf_58 : decode cX5_daysOf 58 = .ok (.iconst 1, 1) := by decide +kernel
theorem dX5_daysOf_59 : decode cX5_daysOf 59 = .ok (.goto 4, 3) := by decide +kernel
theorem dX5_daysOf_62 : decode cX5_daysOf 62 = .ok (.iconst 0, 1) := by decide +kernel
theorem dX5_daysOf_63 : decode cX5_daysOf 63 = .ok (.iadd, 1) := by decide +kernel
theorem dX5_daysOf_64 : decode cX5_daysOf 64 = .ok (.istore_n 3, 1) := by decide +kernel
theorem dX5_daysOf_65 : decode cX5_daysOf 65 = .ok (.iinc 4 1, 3) := by decide +kernel
theorem dX5_daysOf_68 : decode cX5_daysOf 68 = .ok (.goto (-58), 3) := by decide +kernel
theorem dX5_daysOf_71 : decode cX5_daysOf 71 = .ok (.iload_n 3, 1) := by decide +kernel
theorem dX5_daysOf_72 : decode cX5_daysOf 72 = .ok (.ireturn, 1) := by decide +kernel
theorem dX5_barsOf_0 : decode cX5_barsOf 0 = .ok (.iconst 0, 1) := by decide +kernel
theorem dX5_barsOf_1 : decode cX5_barsOf 1 = .ok (.istore_n 2, 1) := by decide +kernel
theorem dX5_barsOf_2 : decode cX5_barsOf 2 = .ok (.iconst 0, 1) := by decide +kernel
theorem dX5_barsOf_3 : decode cX5_barsOf 3 = .ok (.istore_n 3, 1) := by decide +kernel
theorem dX5_barsOf_4 : decode cX5_barsOf 4 = .ok (.iload_n 3, 1) := by decide +kernel
theorem dX5_barsOf_5 : decode cX5_barsOf 5 = .ok (.bipush 7, 2) := by decide +kernel
theorem dX5_barsOf_7 : decode cX5_barsOf 7 = .ok (.if_icmp .ge 33, 3) := by decide +kernel
theorem dX5_barsOf_10 : decode cX5_barsOf 10 = .ok (.iload_n 2, 1) := by decide +kernel
theorem dX5_barsOf_11 : decode cX5_barsOf 11 = .ok (.aload_n 0, 1) := by decide +kernel
theorem dX5_barsOf_12 : decode cX5_barsOf 12 = .ok (.getfield 16, 3) := by decide +kernel
theorem dX5_barsOf_15 : decode cX5_barsOf 15 = .ok (.bipush 7, 2) := by decide +kernel
theorem dX5_barsOf_17 : decode cX5_barsOf 17 = .ok (.iload_n 1, 1) := by decide +kernel
theorem dX5_barsOf_18 : decode cX5_barsOf 18 = .ok (.imul, 1) := by decide +kernel
theorem dX5_barsOf_19 : decode cX5_barsOf 19 = .ok (.iload_n 3, 1) := by decide +kernel
theorem dX5_barsOf_20 : decode cX5_barsOf 20 = .ok (.iadd, 1) := by decide +kernel
theorem dX5_barsOf_21 : decode cX5_barsOf 21 = .ok (.iaload, 1) := by decide +kernel
theorem dX5_barsOf_22 : decode cX5_barsOf 22 = .ok (.bipush (-9), 2) := by decide +kernel
theorem dX5_barsOf_24 : decode cX5_barsOf 24 = .ok (.if_icmp .ne 7, 3) := by decide +kernel
theorem dX5_barsOf_27 : decode cX5_barsOf 27 = .ok (.iconst 0, 1) := by decide +kernel
theorem dX5_barsOf_28 : decode cX5_barsOf 28 = .ok (.goto 4, 3) := by decide +kernel
theorem dX5_barsOf_31 : decode cX5_barsOf 31 = .ok (.iconst 1, 1) := by decide +kernel
theorem dX5_barsOf_32 : decode cX5_barsOf 32 = .ok (.iadd, 1) := by decide +kernel
theorem dX5_barsOf_33 : decode cX5_barsOf 33 = .ok (.istore_n 2, 1) := by decide +kernel
theorem dX5_barsOf_34 : decode cX5_barsOf 34 = .ok (.iinc 3 1, 3) := by decide +kernel
theorem dX5_barsOf_37 : decode cX5_barsOf 37 = .ok (.goto (-33), 3) := by decide +kernel
theorem dX5_barsOf_40 : decode cX5_barsOf 40 = .ok (.iload_n 2, 1) := by decide +kernel
theorem dX5_barsOf_41 : decode cX5_barsOf 41 = .ok (.ireturn, 1) := by decide +kernel
theorem dX5_entryOf_0 : decode cX5_entryOf 0 = .ok (.iload_n 2, 1) := by decide +kernel
theorem dX5_entryOf_1 : decode cX5_entryOf 1 = .ok (.iconst 4, 1) := by decide +kernel
theorem dX5_entryOf_2 : decode cX5_entryOf 2 = .ok (.if_icmp .ge 16, 3) := by decide +kernel
theorem dX5_entryOf_5 : decode cX5_entryOf 5 = .ok (.aload_n 0, 1) := by decide +kernel
theorem dX5_entryOf_6 : decode cX5_entryOf 6 = .ok (.getfield 7, 3) := by decide +kernel
theorem dX5_entryOf_9 : decode cX5_entryOf 9 = .ok (.iconst 5, 1) := by decide +kernel
theorem dX5_entryOf_10 : decode cX5_entryOf 10 = .ok (.iconst 4, 1) := by decide +kernel
theorem dX5_entryOf_11 : decode cX5_entryOf 11 = .ok (.iload_n 1, 1) := by decide +kernel
theorem dX5_entryOf_12 : decode cX5_entryOf 12 = .ok (.imul, 1) := by decide +kernel
theorem dX5_entryOf_13 : decode cX5_entryOf 13 = .ok (.iadd, 1) := by decide +kernel
theorem dX5_entryOf_14 : decode cX5_entryOf 14 = .ok (.iload_n 2, 1) := by decide +kernel
theorem dX5_entryOf_15 : decode cX5_entryOf 15 = .ok (.iadd, 1) := by decide +kernel
theorem dX5_entryOf_16 : decode cX5_entryOf 16 = .ok (.iaload, 1) := by decide +kernel
theorem dX5_entryOf_17 : decode cX5_entryOf 17 = .ok (.ireturn, 1) := by decide +kernel
theorem dX5_entryOf_18 : decode cX5_entryOf 18 = .ok (.iload_n 2, 1) := by decide +kernel
theorem dX5_entryOf_19 : decode cX5_entryOf 19 = .ok (.iconst 4, 1) := by decide +kernel
theorem dX5_entryOf_20 : decode cX5_entryOf 20 = .ok (.if_icmp .ne 19, 3) := by decide +kernel
theorem dX5_entryOf_23 : decode cX5_entryOf 23 = .ok (.aload_n 0, 1) := by decide +kernel
theorem dX5_entryOf_24 : decode cX5_entryOf 24 = .ok (.iload_n 1, 1) := by decide +kernel
theorem dX5_entryOf_25 : decode cX5_entryOf 25 = .ok (.invokevirtual 73, 3) := by decide +kernel
theorem dX5_entryOf_28 : decode cX5_entryOf 28 = .ok (.ifCond .eq 7, 3) := by decide +kernel
theorem dX5_entryOf_31 : decode cX5_entryOf 31 = .ok (.iconst 1, 1) := by decide +kernel
theorem dX5_entryOf_32 : decode cX5_entryOf 32 = .ok (.goto 37, 3) := by decide +kernel
theorem dX5_entryOf_35 : decode cX5_entryOf 35 = .ok (.iconst 0, 1) := by decide +kernel
theorem dX5_entryOf_36 : decode cX5_entryOf 36 = .ok (.goto 33, 3) := by decide +kernel
theorem dX5_entryOf_39 : decode cX5_entryOf 39 = .ok (.iload_n 2, 1) := by decide +kernel
theorem dX5_entryOf_40 : decode cX5_entryOf 40 = .ok (.bipush 7, 2) := by decide +kernel
theorem dX5_entryOf_42 : decode cX5_entryOf 42 = .ok (.if_icmp .ne 11, 3) := by decide +kernel
theorem dX5_entryOf_45 : decode cX5_entryOf 45 = .ok (.aload_n 0, 1) := by decide +kernel
theorem dX5_entryOf_46 : decode cX5_entryOf 46 = .ok (.iload_n 1, 1) := by decide +kernel
theorem dX5_entryOf_47 : decode cX5_entryOf 47 = .ok (.invokevirtual 186, 3) := by decide +kernel
theorem dX5_entryOf_50 : decode cX5_entryOf 50 = .ok (.goto 19, 3) := by decide +kernel
theorem dX5_entryOf_53 : decode cX5_entryOf 53 = .ok (.aload_n 0, 1) := by decide +kernel
theorem dX5_entryOf_54 : decode cX5_entryOf 54 = .ok (.iload_n 1, 1) := by decide +kernel
theorem dX5_entryOf_55 : decode cX5_entryOf 55 = .ok (.iload_n 2, 1) := by decide +kernel
theorem dX5_entryOf_56 : decode cX5_entryOf 56 = .ok (.bipush 6, 2) := by decide +kernel
theorem dX5_entryOf_58 : decode cX5_entryOf 58 = .ok (.if_icmp .ne 7, 3) := by decide +kernel
theorem dX5_entryOf_61 : decode cX5_entryOf 61 = .ok (.iconst 1, 1) := by decide +kernel
theorem dX5_entryOf_62 : decode cX5_entryOf 62 = .ok (.goto 4, 3) := by decide +kernel
theorem dX5_entryOf_65 : decode cX5_entryOf 65 = .ok (.iconst 0, 1) := by decide +kernel
theorem dX5_entryOf_66 : decode cX5_entryOf 66 = .ok (.invokevirtual 189, 3) := by decide +kernel
theorem dX5_entryOf_69 : decode cX5_entryOf 69 = .ok (.ireturn, 1) := by decide +kernel
theorem dX5_entry_0 : decode cX5_entry 0 = .ok (.aload_n 0, 1) := by decide +kernel
theorem dX5_entry_1 : decode cX5_entry 1 = .ok (.iload_n 1, 1) := by decide +kernel
theorem dX5_entry_2 : decode cX5_entry 2 = .ok (.invokevirtual 180, 3) := by decide +kernel
theorem dX5_entry_5 : decode cX5_entry 5 = .ok (.ifCond .eq 13, 3) := by decide +kernel
theorem dX5_entry_8 : decode cX5_entry 8 = .ok (.iload_n 2, 1) := by decide +kernel
theorem dX5_entry_9 : decode cX5_entry 9 = .ok (.iconst 0, 1) := by decide +kernel
theorem dX5_entry_10 : decode cX5_entry 10 = .ok (.bipush 7, 2) := by decide +kernel
theorem dX5_entry_12 : decode cX5_entry 12 = .ok (.invokestatic 32, 3) := by decide +kernel
theorem dX5_entry_15 : decode cX5_entry 15 = .ok (.ifCond .ne 5, 3) := by decide +kernel
theorem dX5_entry_18 : decode cX5_entry 18 = .ok (.iconst (-1), 1) := by decide +kernel
theorem dX5_entry_19 : decode cX5_entry 19 = .ok (.ireturn, 1) := by decide +kernel
theorem dX5_entry_20 : decode cX5_entry 20 = .ok (.aload_n 0, 1) := by decide +kernel
theorem dX5_entry_21 : decode cX5_entry 21 = .ok (.invokevirtual 140, 3) := by decide +kernel
theorem dX5_entry_24 : decode cX5_entry 24 = .ok (.aload_n 0, 1) := by decide +kernel
theorem dX5_entry_25 : decode cX5_entry 25 = .ok (.iload_n 1, 1) := by decide +kernel
theorem dX5_entry_26 : decode cX5_entry 26 = .ok (.iload_n 2, 1) := by decide +kernel
theorem dX5_entry_27 : decode cX5_entry 27 = .ok (.invokevirtual 193, 3) := by decide +kernel
theorem dX5_entry_30 : decode cX5_entry 30 = .ok (.ireturn, 1) := by decide +kernel
theorem dX5_barOf_0 : decode cX5_barOf 0 = .ok (.aload_n 0, 1) := by decide +kernel
theorem dX5_barOf_1 : decode cX5_barOf 1 = .ok (.iload_n 1, 1) := by decide +kernel
theorem dX5_barOf_2 : decode cX5_barOf 2 = .ok (.invokevirtual 40, 3) := by decide +kernel
theorem dX5_barOf_5 : decode cX5_barOf 5 = .ok (.aload_n 0, 1) := by decide +kernel
theorem dX5_barOf_6 : decode cX5_barOf 6 = .ok (.iload_n 2, 1) := by decide +kernel
theorem dX5_barOf_7 : decode cX5_barOf 7 = .ok (.invokevirtual 105, 3) := by decide +kernel
theorem dX5_barOf_10 : decode cX5_barOf 10 = .ok (.if_icmp .le 11, 3) := by decide +kernel
theorem dX5_barOf_13 : decode cX5_barOf 13 = .ok (.aload_n 0, 1) := by decide +kernel
theorem dX5_barOf_14 : decode cX5_barOf 14 = .ok (.iload_n 1, 1) := by decide +kernel
theorem dX5_barOf_15 : decode cX5_barOf 15 = .ok (.invokevirtual 40, 3) := by decide +kernel
theorem dX5_barOf_18 : decode cX5_barOf 18 = .ok (.goto 8, 3) := by decide +kernel
theorem dX5_barOf_21 : decode cX5_barOf 21 = .ok (.aload_n 0, 1) := by decide +kernel
theorem dX5_barOf_22 : decode cX5_barOf 22 = .ok (.iload_n 2, 1) := by decide +kernel
theorem dX5_barOf_23 : decode cX5_barOf 23 = .ok (.invokevirtual 105, 3) := by decide +kernel
theorem dX5_barOf_26 : decode cX5_barOf 26 = .ok (.istore 4, 2) := by decide +kernel
theorem dX5_barOf_28 : decode cX5_barOf 28 = .ok (.aload_n 0, 1) := by decide +kernel
theorem dX5_barOf_29 : decode cX5_barOf 29 = .ok (.iload_n 1, 1) := by decide +kernel
theorem dX5_barOf_30 : decode cX5_barOf 30 = .ok (.invokevirtual 36, 3) := by decide +kernel
theorem dX5_barOf_33 : decode cX5_barOf 33 = .ok (.aload_n 0, 1) := by decide +kernel
theorem dX5_barOf_34 : decode cX5_barOf 34 = .ok (.iload_n 2, 1) := by decide +kernel
theorem dX5_barOf_35 : decode cX5_barOf 35 = .ok (.invokevirtual 124, 3) := by decide +kernel
theorem dX5_barOf_38 : decode cX5_barOf 38 = .ok (.if_icmp .ge 11, 3) := by decide +kernel
theorem dX5_barOf_41 : decode cX5_barOf 41 = .ok (.aload_n 0, 1) := by decide +kernel
theorem dX5_barOf_42 : decode cX5_barOf 42 = .ok (.iload_n 1, 1) := by decide +kernel
theorem dX5_barOf_43 : decode cX5_barOf 43 = .ok (.invokevirtual 36, 3) := by decide +kernel
theorem dX5_barOf_46 : decode cX5_barOf 46 = .ok (.goto 8, 3) := by decide +kernel
theorem dX5_barOf_49 : decode cX5_barOf 49 = .ok (.aload_n 0, 1) := by decide +kernel
theorem dX5_barOf_50 : decode cX5_barOf 50 = .ok (.iload_n 2, 1) := by decide +kernel
theorem dX5_barOf_51 : decode cX5_barOf 51 = .ok (.invokevirtual 124, 3) := by decide +kernel
theorem dX5_barOf_54 : decode cX5_barOf 54 = .ok (.istore 5, 2) := by decide +kernel
theorem dX5_barOf_56 : decode cX5_barOf 56 = .ok (.iload_n 3, 1) := by decide +kernel
theorem dX5_barOf_57 : decode cX5_barOf 57 = .ok (.tableswitch 65 0 3 #[31, 43, 46, 49], 31) := by decide +kernel
theorem dX5_barOf_88 : decode cX5_barOf 88 = .ok (.aload_n 0, 1) := by decide +kernel
theorem dX5_barOf_89 : decode cX5_barOf 89 = .ok (.getfield 16, 3) := by decide +kernel
theorem dX5_barOf_92 : decode cX5_barOf 92 = .ok (.bipush 7, 2) := by decide +kernel
theorem dX5_barOf_94 : decode cX5_barOf 94 = .ok (.iload_n 1, 1) := by decide +kernel
theorem dX5_barOf_95 : decode cX5_barOf 95 = .ok (.imul, 1) := by decide +kernel
theorem dX5_barOf_96 : decode cX5_barOf 96 = .ok (.iload_n 2, 1) := by decide +kernel
theorem dX5_barOf_97 : decode cX5_barOf 97 = .ok (.iadd, 1) := by decide +kernel
theorem dX5_barOf_98 : decode cX5_barOf 98 = .ok (.iaload, 1) := by decide +kernel
theorem dX5_barOf_99 : decode cX5_barOf 99 = .ok (.ireturn, 1) := by decide +kernel
theorem dX5_barOf_100 : decode cX5_barOf 100 = .ok (.iload 4, 2) := by decide +kernel
theorem dX5_barOf_102 : decode cX5_barOf 102 = .ok (.ireturn, 1) := by decide +kernel
theorem dX5_barOf_103 : decode cX5_barOf 103 = .ok (.iload 5, 2) := by decide +kernel
theorem dX5_barOf_105 : decode cX5_barOf 105 = .ok (.ireturn, 1) := by decide +kernel
theorem dX5_barOf_106 : decode cX5_barOf 106 = .ok (.aload_n 0, 1) := by decide +kernel
theorem dX5_barOf_107 : decode cX5_barOf 107 = .ok (.iload_n 1, 1) := by decide +kernel
theorem dX5_barOf_108 : decode cX5_barOf 108 = .ok (.invokevirtual 40, 3) := by decide +kernel
theorem dX5_barOf_111 : decode cX5_barOf 111 = .ok (.iload 4, 2) := by decide +kernel
theorem dX5_barOf_113 : decode cX5_barOf 113 = .ok (.if_icmp .ge 7, 3) := by decide +kernel
theorem dX5_barOf_116 : decode cX5_barOf 116 = .ok (.iconst 1, 1) := by decide +kernel
theorem dX5_barOf_117 : decode cX5_barOf 117 = .ok (.goto 4, 3) := by decide +kernel
theorem dX5_barOf_120 : decode cX5_barOf 120 = .ok (.iconst 0, 1) := by decide +kernel
theorem dX5_barOf_121 : decode cX5_barOf 121 = .ok (.ireturn, 1) := by decide +kernel
theorem dX5_barOf_122 : decode cX5_barOf 122 = .ok (.aload_n 0, 1) := by decide +kernel
theorem dX5_barOf_123 : decode cX5_barOf 123 = .ok (.iload_n 1, 1) := by decide +kernel
theorem dX5_barOf_124 : decode cX5_barOf 124 = .ok (.invokevirtual 36, 3) := by decide +kernel
theorem dX5_barOf_127 : decode cX5_barOf 127 = .ok (.iload 5, 2) := by decide +kernel
theorem dX5_barOf_129 : decode cX5_barOf 129 = .ok (.if_icmp .le 7, 3) := by decide +kernel
theorem dX5_barOf_132 : decode cX5_barOf 132 = .ok (.iconst 1, 1) := by decide +kernel
theorem dX5_barOf_133 : decode cX5_barOf 133 = .ok (.goto 4, 3) := by decide +kernel
theorem dX5_barOf_136 : decode cX5_barOf 136 = .ok (.iconst 0, 1) := by decide +kernel
theorem dX5_barOf_137 : decode cX5_barOf 137 = .ok (.ireturn, 1) := by decide +kernel
theorem dX5_hasBar_0 : decode cX5_hasBar 0 = .ok (.iload_n 2, 1) := by decide +kernel
theorem dX5_hasBar_1 : decode cX5_hasBar 1 = .ok (.aload_n 0, 1) := by decide +kernel
theorem dX5_hasBar_2 : decode cX5_hasBar 2 = .ok (.invokevirtual 56, 3) := by decide +kernel
theorem dX5_hasBar_5 : decode cX5_hasBar 5 = .ok (.if_icmp .ge 23, 3) := by decide +kernel
theorem dX5_hasBar_8 : decode cX5_hasBar 8 = .ok (.aload_n 0, 1) := by decide +kernel
theorem dX5_hasBar_9 : decode cX5_hasBar 9 = .ok (.getfield 16, 3) := by decide +kernel
theorem dX5_hasBar_12 : decode cX5_hasBar 12 = .ok (.bipush 7, 2) := by decide +kernel
theorem dX5_hasBar_14 : decode cX5_hasBar 14 = .ok (.iload_n 1, 1) := by decide +kernel
theorem dX5_hasBar_15 : decode cX5_hasBar 15 = .ok (.imul, 1) := by decide +kernel
theorem dX5_hasBar_16 : decode cX5_hasBar 16 = .ok (.iload_n 2, 1) := by decide +kernel
theorem dX5_hasBar_17 : decode cX5_hasBar 17 = .ok (.iadd, 1) := by decide +kernel
theorem dX5_hasBar_18 : decode cX5_hasBar 18 = .ok (.iaload, 1) := by decide +kernel
theorem dX5_hasBar_19 : decode cX5_hasBar 19 = .ok (.bipush (-9), 2) := by decide +kernel
theorem dX5_hasBar_21 : decode cX5_hasBar 21 = .ok (.if_icmp .eq 7, 3) := by decide +kernel
theorem dX5_hasBar_24 : decode cX5_hasBar 24 = .ok (.iconst 1, 1) := by decide +kernel
theorem dX5_hasBar_25 : decode cX5_hasBar 25 = .ok (.goto 4, 3) := by decide +kernel
theorem dX5_hasBar_28 : decode cX5_hasBar 28 = .ok (.iconst 0, 1) := by decide +kernel
theorem dX5_hasBar_29 : decode cX5_hasBar 29 = .ok (.ireturn, 1) := by decide +kernel
theorem dX5_bar_0 : decode cX5_bar 0 = .ok (.aload_n 0, 1) := by decide +kernel
theorem dX5_bar_1 : decode cX5_bar 1 = .ok (.iload_n 1, 1) := by decide +kernel
theorem dX5_bar_2 : decode cX5_bar 2 = .ok (.invokevirtual 180, 3) := by decide +kernel
theorem dX5_bar_5 : decode cX5_bar 5 = .ok (.ifCond .eq 16, 3) := by decide +kernel
theorem dX5_bar_8 : decode cX5_bar 8 = .ok (.iload_n 2, 1) := by decide +kernel
theorem dX5_bar_9 : decode cX5_bar 9 = .ok (.ifCond .lt 12, 3) := by decide +kernel
theorem dX5_bar_12 : decode cX5_bar 12 = .ok (.iload_n 3, 1) := by decide +kernel
theorem dX5_bar_13 : decode cX5_bar 13 = .ok (.iconst 0, 1) := by decide +kernel
theorem dX5_bar_14 : decode cX5_bar 14 = .ok (.iconst 4, 1) := by decide +kernel
theorem dX5_bar_15 : decode cX5_bar 15 = .ok (.invokestatic 32, 3) := by decide +kernel
theorem dX5_bar_18 : decode cX5_bar 18 = .ok (.ifCond .ne 5, 3) := by decide +kernel
theorem dX5_bar_21 : decode cX5_bar 21 = .ok (.iconst (-1), 1) := by decide +kernel
theorem dX5_bar_22 : decode cX5_bar 22 = .ok (.ireturn, 1) := by decide +kernel
theorem dX5_bar_23 : decode cX5_bar 23 = .ok (.aload_n 0, 1) := by decide +kernel
theorem dX5_bar_24 : decode cX5_bar 24 = .ok (.invokevirtual 140, 3) := by decide +kernel
theorem dX5_bar_27 : decode cX5_bar 27 = .ok (.aload_n 0, 1) := by decide +kernel
theorem dX5_bar_28 : decode cX5_bar 28 = .ok (.iload_n 1, 1) := by decide +kernel
theorem dX5_bar_29 : decode cX5_bar 29 = .ok (.iload_n 2, 1) := by decide +kernel
theorem dX5_bar_30 : decode cX5_bar 30 = .ok (.invokevirtual 196, 3) := by decide +kernel
theorem dX5_bar_33 : decode cX5_bar 33 = .ok (.ifCond .eq 13, 3) := by decide +kernel
theorem dX5_bar_36 : decode cX5_bar 36 = .ok (.aload_n 0, 1) := by decide +kernel
theorem dX5_bar_37 : decode cX5_bar 37 = .ok (.iload_n 1, 1) := by decide +kernel
theorem dX5_bar_38 : decode cX5_bar 38 = .ok (.iload_n 2, 1) := by decide +kernel
theorem dX5_bar_39 : decode cX5_bar 39 = .ok (.iload_n 3, 1) := by decide +kernel
theorem dX5_bar_40 : decode cX5_bar 40 = .ok (.invokevirtual 199, 3) := by decide +kernel
theorem dX5_bar_43 : decode cX5_bar 43 = .ok (.goto 5, 3) := by decide +kernel
theorem dX5_bar_46 : decode cX5_bar 46 = .ok (.bipush (-9), 2) := by decide +kernel
theorem dX5_bar_48 : decode cX5_bar 48 = .ok (.ireturn, 1) := by decide +kernel
theorem dX5_shownAt_0 : decode cX5_shownAt 0 = .ok (.aload_n 0, 1) := by decide +kernel
theorem dX5_shownAt_1 : decode cX5_shownAt 1 = .ok (.iload_n 1, 1) := by decide +kernel
theorem dX5_shownAt_2 : decode cX5_shownAt 2 = .ok (.invokevirtual 115, 3) := by decide +kernel
theorem dX5_shownAt_5 : decode cX5_shownAt 5 = .ok (.istore_n 3, 1) := by decide +kernel
theorem dX5_shownAt_6 : decode cX5_shownAt 6 = .ok (.iload_n 2, 1) := by decide +kernel
theorem dX5_shownAt_7 : decode cX5_shownAt 7 = .ok (.aload_n 0, 1) := by decide +kernel
theorem dX5_shownAt_8 : decode cX5_shownAt 8 = .ok (.getfield 7, 3) := by decide +kernel
theorem dX5_shownAt_11 : decode cX5_shownAt 11 = .ok (.iconst 3, 1) := by decide +kernel
theorem dX5_shownAt_12 : decode cX5_shownAt 12 = .ok (.iaload, 1) := by decide +kernel
theorem dX5_shownAt_13 : decode cX5_shownAt 13 = .ok (.if_icmp .ge 25, 3) := by decide +kernel
theorem dX5_shownAt_16 : decode cX5_shownAt 16 = .ok (.iload_n 3, 1) := by decide +kernel
theorem dX5_shownAt_17 : decode cX5_shownAt 17 = .ok (.aload_n 0, 1) := by decide +kernel
theorem dX5_shownAt_18 : decode cX5_shownAt 18 = .ok (.getfield 7, 3) := by decide +kernel
theorem dX5_shownAt_21 : decode cX5_shownAt 21 = .ok (.iconst 3, 1) := by decide +kernel
theorem dX5_shownAt_22 : decode cX5_shownAt 22 = .ok (.iaload, 1) := by decide +kernel
theorem dX5_shownAt_23 : decode cX5_shownAt 23 = .ok (.if_icmp .le 45, 3) := by decide +kernel
theorem dX5_shownAt_26 : decode cX5_shownAt 26 = .ok (.iload_n 2, 1) := by decide +kernel
theorem dX5_shownAt_27 : decode cX5_shownAt 27 = .ok (.aload_n 0, 1) := by decide +kernel
theorem dX5_shownAt_28 : decode cX5_shownAt 28 = .ok (.getfield 7, 3) := by decide +kernel
theorem dX5_shownAt_31 : decode cX5_shownAt 31 = .ok (.iconst 3, 1) := by decide +kernel
theorem dX5_shownAt_32 : decode cX5_shownAt 32 = .ok (.iaload, 1) := by decide +kernel
theorem dX5_shownAt_33 : decode cX5_shownAt 33 = .ok (.iconst 1, 1) := by decide +kernel
theorem dX5_shownAt_34 : decode cX5_shownAt 34 = .ok (.isub, 1) := by decide +kernel
theorem dX5_shownAt_35 : decode cX5_shownAt 35 = .ok (.if_icmp .ne 33, 3) := by decide +kernel
theorem dX5_shownAt_38 : decode cX5_shownAt 38 = .ok (.iload_n 2, 1) := by decide +kernel
theorem dX5_shownAt_39 : decode cX5_shownAt 39 = .ok (.aload_n 0, 1) := by decide +kernel
theorem dX5_shownAt_40 : decode cX5_shownAt 40 = .ok (.getfield 7, 3) := by decide +kernel
theorem dX5_shownAt_43 : decode cX5_shownAt 43 = .ok (.iconst 3, 1) := by decide +kernel
theorem dX5_shownAt_44 : decode cX5_shownAt 44 = .ok (.iaload, 1) := by decide +kernel
theorem dX5_shownAt_45 : decode cX5_shownAt 45 = .ok (.if_icmp .lt 8, 3) := by decide +kernel
theorem dX5_shownAt_48 : decode cX5_shownAt 48 = .ok (.bipush (-9), 2) := by decide +kernel
theorem dX5_shownAt_50 : decode cX5_shownAt 50 = .ok (.goto 17, 3) := by decide +kernel
theorem dX5_shownAt_53 : decode cX5_shownAt 53 = .ok (.bipush (-10), 2) := by decide +kernel
theorem dX5_shownAt_55 : decode cX5_shownAt 55 = .ok (.aload_n 0, 1) := by decide +kernel
theorem dX5_shownAt_56 : decode cX5_shownAt 56 = .ok (.iload_n 1, 1) := by decide +kernel
theorem dX5_shownAt_57 : decode cX5_shownAt 57 = .ok (.aload_n 0, 1) := by decide +kernel
theorem dX5_shownAt_58 : decode cX5_shownAt 58 = .ok (.getfield 7, 3) := by decide +kernel
theorem dX5_shownAt_61 : decode cX5_shownAt 61 = .ok (.iconst 3, 1) := by decide +kernel
theorem dX5_shownAt_62 : decode cX5_shownAt 62 = .ok (.iaload, 1) := by decide +kernel
theorem dX5_shownAt_63 : decode cX5_shownAt 63 = .ok (.invokevirtual 121, 3) := by decide +kernel
theorem dX5_shownAt_66 : decode cX5_shownAt 66 = .ok (.isub, 1) := by decide +kernel
theorem dX5_shownAt_67 : decode cX5_shownAt 67 = .ok (.ireturn, 1) := by decide +kernel
theorem dX5_shownAt_68 : decode cX5_shownAt 68 = .ok (.iconst 0, 1) := by decide +kernel
theorem dX5_shownAt_69 : decode cX5_shownAt 69 = .ok (.istore 4, 2) := by decide +kernel
theorem dX5_shownAt_71 : decode cX5_shownAt 71 = .ok (.iload 4, 2) := by decide +kernel
theorem dX5_shownAt_73 : decode cX5_shownAt 73 = .ok (.aload_n 0, 1) := by decide +kernel
theorem dX5_shownAt_74 : decode cX5_shownAt 74 = .ok (.getfield 7, 3) := by decide +kernel
theorem dX5_shownAt_77 : decode cX5_shownAt 77 = .ok (.iconst 4, 1) := by decide +kernel
theorem dX5_shownAt_78 : decode cX5_shownAt 78 = .ok (.iaload, 1) := by decide +kernel
theorem dX5_shownAt_79 : decode cX5_shownAt 79 = .ok (.if_icmp .ge 33, 3) := by decide +kernel
theorem dX5_shownAt_82 : decode cX5_shownAt 82 = .ok (.aload_n 0, 1) := by decide +kernel
theorem dX5_shownAt_83 : decode cX5_shownAt 83 = .ok (.iload 4, 2) := by decide +kernel
theorem dX5_shownAt_85 : decode cX5_shownAt 85 = .ok (.iload_n 1, 1) := by decide +kernel
theorem dX5_shownAt_86 : decode cX5_shownAt 86 = .ok (.invokevirtual 86, 3) := by decide +kernel
theorem dX5_shownAt_89 : decode cX5_shownAt 89 = .ok (.ifCond .eq 17, 3) := by decide +kernel
theorem dX5_shownAt_92 : decode cX5_shownAt 92 = .ok (.aload_n 0, 1) := by decide +kernel
theorem dX5_shownAt_93 : decode cX5_shownAt 93 = .ok (.iload 4, 2) := by decide +kernel
theorem dX5_shownAt_95 : decode cX5_shownAt 95 = .ok (.iload_n 1, 1) := by decide +kernel
theorem dX5_shownAt_96 : decode cX5_shownAt 96 = .ok (.invokevirtual 89, 3) := by decide +kernel
theorem dX5_shownAt_99 : decode cX5_shownAt 99 = .ok (.iload_n 2, 1) := by decide +kernel
theorem dX5_shownAt_100 : decode cX5_shownAt 100 = .ok (.if_icmp .ne 6, 3) := by decide +kernel
theorem dX5_shownAt_103 : decode cX5_shownAt 103 = .ok (.iload 4, 2) := by decide +kernel
theorem dX5_shownAt_105 : decode cX5_shownAt 105 = .ok (.ireturn, 1) := by decide +kernel
theorem dX5_shownAt_106 : decode cX5_shownAt 106 = .ok (.iinc 4 1, 3) := by decide +kernel
theorem dX5_shownAt_109 : decode cX5_shownAt 109 = .ok (.goto (-38), 3) := by decide +kernel
theorem dX5_shownAt_112 : decode cX5_shownAt 112 = .ok (.bipush (-9), 2) := by decide +kernel
theorem dX5_shownAt_114 : decode cX5_shownAt 114 = .ok (.ireturn, 1) := by decide +kernel
theorem dX5_shown_0 : decode cX5_shown 0 = .ok (.aload_n 0, 1) := by decide +kernel
theorem dX5_shown_1 : decode cX5_shown 1 = .ok (.iload_n 1, 1) := by decide +kernel
theorem dX5_shown_2 : decode cX5_shown 2 = .ok (.invokevirtual 202, 3) := by decide +kernel
theorem dX5_shown_5 : decode cX5_shown 5 = .ok (.ifCond .eq 13, 3) := by decide +kernel
theorem dX5_shown_8 : decode cX5_shown 8 = .ok (.iload_n 2, 1) := by decide +kernel
theorem dX5_shown_9 : decode cX5_shown 9 = .ok (.iconst 0, 1) := by decide +kernel
theorem dX5_shown_10 : decode cX5_shown 10 = .ok (.bipush 11, 2) := by decide +kernel
theorem dX5_shown_12 : decode cX5_shown 12 = .ok (.invokestatic 32, 3) := by decide +kernel
theorem dX5_shown_15 : decode cX5_shown 15 = .ok (.ifCond .ne 5, 3) := by decide +kernel
theorem dX5_shown_18 : decode cX5_shown 18 = .ok (.iconst (-1), 1) := by decide +kernel
theorem dX5_shown_19 : decode cX5_shown 19 = .ok (.ireturn, 1) := by decide +kernel
theorem dX5_shown_20 : decode cX5_shown 20 = .ok (.aload_n 0, 1) := by decide +kernel
theorem dX5_shown_21 : decode cX5_shown 21 = .ok (.invokevirtual 140, 3) := by decide +kernel
theorem dX5_shown_24 : decode cX5_shown 24 = .ok (.aload_n 0, 1) := by decide +kernel
theorem dX5_shown_25 : decode cX5_shown 25 = .ok (.iload_n 1, 1) := by decide +kernel
theorem dX5_shown_26 : decode cX5_shown 26 = .ok (.iload_n 2, 1) := by decide +kernel
theorem dX5_shown_27 : decode cX5_shown 27 = .ok (.invokevirtual 205, 3) := by decide +kernel
theorem dX5_shown_30 : decode cX5_shown 30 = .ok (.ireturn, 1) := by decide +kernel
theorem dX5_rowOf_0 : decode cX5_rowOf 0 = .ok (.aload_n 0, 1) := by decide +kernel
theorem dX5_rowOf_1 : decode cX5_rowOf 1 = .ok (.iload_n 1, 1) := by decide +kernel
theorem dX5_rowOf_2 : decode cX5_rowOf 2 = .ok (.invokevirtual 180, 3) := by decide +kernel
theorem dX5_rowOf_5 : decode cX5_rowOf 5 = .ok (.ifCond .eq 11, 3) := by decide +kernel
theorem dX5_rowOf_8 : decode cX5_rowOf 8 = .ok (.aload_n 0, 1) := by decide +kernel
theorem dX5_rowOf_9 : decode cX5_rowOf 9 = .ok (.iload_n 2, 1) := by decide +kernel
theorem dX5_rowOf_10 : decode cX5_rowOf 10 = .ok (.invokevirtual 202, 3) := by decide +kernel
theorem dX5_rowOf_13 : decode cX5_rowOf 13 = .ok (.ifCond .ne 5, 3) := by decide +kernel
theorem dX5_rowOf_16 : decode cX5_rowOf 16 = .ok (.iconst (-1), 1) := by decide +kernel
theorem dX5_rowOf_17 : decode cX5_rowOf 17 = .ok (.ireturn, 1) := by decide +kernel
theorem dX5_rowOf_18 : decode cX5_rowOf 18 = .ok (.aload_n 0, 1) := by decide +kernel
theorem dX5_rowOf_19 : decode cX5_rowOf 19 = .ok (.invokevirtual 140, 3) := by decide +kernel
theorem dX5_rowOf_22 : decode cX5_rowOf 22 = .ok (.aload_n 0, 1) := by decide +kernel
theorem dX5_rowOf_23 : decode cX5_rowOf 23 = .ok (.iload_n 1, 1) := by decide +kernel
theorem dX5_rowOf_24 : decode cX5_rowOf 24 = .ok (.iload_n 2, 1) := by decide +kernel
theorem dX5_rowOf_25 : decode cX5_rowOf 25 = .ok (.invokevirtual 86, 3) := by decide +kernel
theorem dX5_rowOf_28 : decode cX5_rowOf 28 = .ok (.ifCond .eq 12, 3) := by decide +kernel
theorem dX5_rowOf_31 : decode cX5_rowOf 31 = .ok (.aload_n 0, 1) := by decide +kernel
theorem dX5_rowOf_32 : decode cX5_rowOf 32 = .ok (.iload_n 1, 1) := by decide +kernel
theorem dX5_rowOf_33 : decode cX5_rowOf 33 = .ok (.iload_n 2, 1) := by decide +kernel
theorem dX5_rowOf_34 : decode cX5_rowOf 34 = .ok (.invokevirtual 89, 3) := by decide +kernel
theorem dX5_rowOf_37 : decode cX5_rowOf 37 = .ok (.goto 5, 3) := by decide +kernel
theorem dX5_rowOf_40 : decode cX5_rowOf 40 = .ok (.bipush (-9), 2) := by decide +kernel
theorem dX5_rowOf_42 : decode cX5_rowOf 42 = .ok (.ireturn, 1) := by decide +kernel
theorem dX5_barsOn_0 : decode cX5_barsOn 0 = .ok (.iconst 0, 1) := by decide +kernel
theorem dX5_barsOn_1 : decode cX5_barsOn 1 = .ok (.istore_n 2, 1) := by decide +kernel
theorem dX5_barsOn_2 : decode cX5_barsOn 2 = .ok (.iconst 0, 1) := by decide +kernel
theorem dX5_barsOn_3 : decode cX5_barsOn 3 = .ok (.istore_n 3, 1) := by decide +kernel
theorem dX5_barsOn_4 : decode cX5_barsOn 4 = .ok (.iload_n 3, 1) := by decide +kernel
theorem dX5_barsOn_5 : decode cX5_barsOn 5 = .ok (.aload_n 0, 1) := by decide +kernel
theorem dX5_barsOn_6 : decode cX5_barsOn 6 = .ok (.getfield 7, 3) := by decide +kernel
theorem dX5_barsOn_9 : decode cX5_barsOn 9 = .ok (.iconst 4, 1) := by decide +kernel
theorem dX5_barsOn_10 : decode cX5_barsOn 10 = .ok (.iaload, 1) := by decide +kernel
theorem dX5_barsOn_11 : decode cX5_barsOn 11 = .ok (.if_icmp .ge 34, 3) := by decide +kernel
theorem dX5_barsOn_14 : decode cX5_barsOn 14 = .ok (.iload_n 2, 1) := by decide +kernel
theorem dX5_barsOn_15 : decode cX5_barsOn 15 = .ok (.aload_n 0, 1) := by decide +kernel
theorem dX5_barsOn_16 : decode cX5_barsOn 16 = .ok (.iload_n 3, 1) := by decide +kernel
theorem dX5_barsOn_17 : decode cX5_barsOn 17 = .ok (.invokevirtual 73, 3) := by decide +kernel
theorem dX5_barsOn_20 : decode cX5_barsOn 20 = .ok (.ifCond .eq 16, 3) := by decide +kernel
theorem dX5_barsOn_23 : decode cX5_barsOn 23 = .ok (.aload_n 0, 1) := by decide +kernel
theorem dX5_barsOn_24 : decode cX5_barsOn 24 = .ok (.iload_n 3, 1) := by decide +kernel
theorem dX5_barsOn_25 : decode cX5_barsOn 25 = .ok (.iload_n 1, 1) := by decide +kernel
theorem dX5_barsOn_26 : decode cX5_barsOn 26 = .ok (.invokevirtual 86, 3) := by decide +kernel
theorem dX5_barsOn_29 : decode cX5_barsOn 29 = .ok (.ifCond .eq 7, 3) := by decide +kernel
theorem dX5_barsOn_32 : decode cX5_barsOn 32 = .ok (.iconst 1, 1) := by decide +kernel
theorem dX5_barsOn_33 : decode cX5_barsOn 33 = .ok (.goto 4, 3) := by decide +kernel
theorem dX5_barsOn_36 : decode cX5_barsOn 36 = .ok (.iconst 0, 1) := by decide +kernel
theorem dX5_barsOn_37 : decode cX5_barsOn 37 = .ok (.iadd, 1) := by decide +kernel
theorem dX5_barsOn_38 : decode cX5_barsOn 38 = .ok (.istore_n 2, 1) := by decide +kernel
theorem dX5_barsOn_39 : decode cX5_barsOn 39 = .ok (.iinc 3 1, 3) := by decide +kernel
theorem dX5_barsOn_42 : decode cX5_barsOn 42 = .ok (.goto (-38), 3) := by decide +kernel
theorem dX5_barsOn_45 : decode cX5_barsOn 45 = .ok (.iload_n 2, 1) := by decide +kernel
theorem dX5_barsOn_46 : decode cX5_barsOn 46 = .ok (.ireturn, 1) := by decide +kernel
theorem dX5_dayOf_0 : decode cX5_dayOf 0 = .ok (.iload_n 2, 1) := by decide +kernel
theorem dX5_dayOf_1 : decode cX5_dayOf 1 = .ok (.tableswitch 71 0 4 #[35, 41, 46, 52, 59], 35) := by decide +kernel
theorem dX5_dayOf_36 : decode cX5_dayOf 36 = .ok (.aload_n 0, 1) := by decide +kernel
theorem dX5_dayOf_37 : decode cX5_dayOf 37 = .ok (.iload_n 1, 1) := by decide +kernel
theorem dX5_dayOf_38 : decode cX5_dayOf 38 = .ok (.invokevirtual 46, 3) := by decide +kernel
theorem dX5_dayOf_41 : decode cX5_dayOf 41 = .ok (.ireturn, 1) := by decide +kernel
theorem dX5_dayOf_42 : decode cX5_dayOf 42 = .ok (.iload_n 1, 1) := by decide +kernel
theorem dX5_dayOf_43 : decode cX5_dayOf 43 = .ok (.bipush 7, 2) := by decide +kernel
theorem dX5_dayOf_45 : decode cX5_dayOf 45 = .ok (.irem, 1) := by decide +kernel
theorem dX5_dayOf_46 : decode cX5_dayOf 46 = .ok (.ireturn, 1) := by decide +kernel
theorem dX5_dayOf_47 : decode cX5_dayOf 47 = .ok (.aload_n 0, 1) := by decide +kernel
theorem dX5_dayOf_48 : decode cX5_dayOf 48 = .ok (.iload_n 1, 1) := by decide +kernel
theorem dX5_dayOf_49 : decode cX5_dayOf 49 = .ok (.invokevirtual 208, 3) := by decide +kernel
theorem dX5_dayOf_52 : decode cX5_dayOf 52 = .ok (.ireturn, 1) := by decide +kernel
theorem dX5_dayOf_53 : decode cX5_dayOf 53 = .ok (.aload_n 0, 1) := by decide +kernel
theorem dX5_dayOf_54 : decode cX5_dayOf 54 = .ok (.iload_n 1, 1) := by decide +kernel
theorem dX5_dayOf_55 : decode cX5_dayOf 55 = .ok (.iload_n 1, 1) := by decide +kernel
theorem dX5_dayOf_56 : decode cX5_dayOf 56 = .ok (.invokevirtual 133, 3) := by decide +kernel
theorem dX5_dayOf_59 : decode cX5_dayOf 59 = .ok (.ireturn, 1) := by decide +kernel
theorem dX5_dayOf_60 : decode cX5_dayOf 60 = .ok (.aload_n 0, 1) := by decide +kernel
theorem dX5_dayOf_61 : decode cX5_dayOf 61 = .ok (.iload_n 1, 1) := by decide +kernel
theorem dX5_dayOf_62 : decode cX5_dayOf 62 = .ok (.aload_n 0, 1) := by decide +kernel
theorem dX5_dayOf_63 : decode cX5_dayOf 63 = .ok (.getfield 7, 3) := by decide +kernel
theorem dX5_dayOf_66 : decode cX5_dayOf 66 = .ok (.iconst 3, 1) := by decide +kernel
theorem dX5_dayOf_67 : decode cX5_dayOf 67 = .ok (.iaload, 1) := by decide +kernel
theorem dX5_dayOf_68 : decode cX5_dayOf 68 = .ok (.invokevirtual 121, 3) := by decide +kernel
theorem dX5_dayOf_71 : decode cX5_dayOf 71 = .ok (.ireturn, 1) := by decide +kernel
theorem dX5_dayOf_72 : decode cX5_dayOf 72 = .ok (.aload_n 0, 1) := by decide +kernel
theorem dX5_dayOf_73 : decode cX5_dayOf 73 = .ok (.iload_n 1, 1) := by decide +kernel
theorem dX5_dayOf_74 : decode cX5_dayOf 74 = .ok (.invokevirtual 115, 3) := by decide +kernel
theorem dX5_dayOf_77 : decode cX5_dayOf 77 = .ok (.ireturn, 1) := by decide +kernel
theorem dX5_day_0 : decode cX5_day 0 = .ok (.aload_n 0, 1) := by decide +kernel
theorem dX5_day_1 : decode cX5_day 1 = .ok (.iload_n 1, 1) := by decide +kernel
theorem dX5_day_2 : decode cX5_day 2 = .ok (.invokevirtual 202, 3) := by decide +kernel
theorem dX5_day_5 : decode cX5_day 5 = .ok (.ifCond .eq 12, 3) := by decide +kernel
theorem dX5_day_8 : decode cX5_day 8 = .ok (.iload_n 2, 1) := by decide +kernel
theorem dX5_day_9 : decode cX5_day 9 = .ok (.iconst 0, 1) := by decide +kernel
theorem dX5_day_10 : decode cX5_day 10 = .ok (.iconst 5, 1) := by decide +kernel
theorem dX5_day_11 : decode cX5_day 11 = .ok (.invokestatic 32, 3) := by decide +kernel
theorem dX5_day_14 : decode cX5_day 14 = .ok (.ifCond .ne 5, 3) := by decide +kernel
theorem dX5_day_17 : decode cX5_day 17 = .ok (.iconst (-1), 1) := by decide +kernel
theorem dX5_day_18 : decode cX5_day 18 = .ok (.ireturn, 1) := by decide +kernel
theorem dX5_day_19 : decode cX5_day 19 = .ok (.aload_n 0, 1) := by decide +kernel
theorem dX5_day_20 : decode cX5_day 20 = .ok (.invokevirtual 140, 3) := by decide +kernel
theorem dX5_day_23 : decode cX5_day 23 = .ok (.aload_n 0, 1) := by decide +kernel
theorem dX5_day_24 : decode cX5_day 24 = .ok (.iload_n 1, 1) := by decide +kernel
theorem dX5_day_25 : decode cX5_day 25 = .ok (.iload_n 2, 1) := by decide +kernel
theorem dX5_day_26 : decode cX5_day 26 = .ok (.invokevirtual 211, 3) := by decide +kernel
theorem dX5_day_29 : decode cX5_day 29 = .ok (.ireturn, 1) := by decide +kernel
theorem dX5_enough_0 : decode cX5_enough 0 = .ok (.aload_n 0, 1) := by decide +kernel
theorem dX5_enough_1 : decode cX5_enough 1 = .ok (.invokevirtual 140, 3) := by decide +kernel
theorem dX5_enough_4 : decode cX5_enough 4 = .ok (.iconst 1, 1) := by decide +kernel
theorem dX5_enough_5 : decode cX5_enough 5 = .ok (.istore_n 1, 1) := by decide +kernel
theorem dX5_enough_6 : decode cX5_enough 6 = .ok (.aload_n 0, 1) := by decide +kernel
theorem dX5_enough_7 : decode cX5_enough 7 = .ok (.getfield 7, 3) := by decide +kernel
theorem dX5_enough_10 : decode cX5_enough 10 = .ok (.iconst 0, 1) := by decide +kernel
theorem dX5_enough_11 : decode cX5_enough 11 = .ok (.iaload, 1) := by decide +kernel
theorem dX5_enough_12 : decode cX5_enough 12 = .ok (.istore_n 2, 1) := by decide +kernel
theorem dX5_enough_13 : decode cX5_enough 13 = .ok (.iload_n 2, 1) := by decide +kernel
theorem dX5_enough_14 : decode cX5_enough 14 = .ok (.aload_n 0, 1) := by decide +kernel
theorem dX5_enough_15 : decode cX5_enough 15 = .ok (.getfield 7, 3) := by decide +kernel
theorem dX5_enough_18 : decode cX5_enough 18 = .ok (.iconst 1, 1) := by decide +kernel
theorem dX5_enough_19 : decode cX5_enough 19 = .ok (.iaload, 1) := by decide +kernel
theorem dX5_enough_20 : decode cX5_enough 20 = .ok (.if_icmp .gt 28, 3) := by decide +kernel
theorem dX5_enough_23 : decode cX5_enough 23 = .ok (.aload_n 0, 1) := by decide +kernel
theorem dX5_enough_24 : decode cX5_enough 24 = .ok (.iload_n 2, 1) := by decide +kernel
theorem dX5_enough_25 : decode cX5_enough 25 = .ok (.invokevirtual 115, 3) := by decide +kernel
theorem dX5_enough_28 : decode cX5_enough 28 = .ok (.iload_n 1, 1) := by decide +kernel
theorem dX5_enough_29 : decode cX5_enough 29 = .ok (.if_icmp .le 11, 3) := by decide +kernel
theorem dX5_enough_32 : decode cX5_enough 32 = .ok (.aload_n 0, 1) := by decide +kernel
theorem dX5_enough_33 : decode cX5_enough 33 = .ok (.iload_n 2, 1) := by decide +kernel
theorem dX5_enough_34 : decode cX5_enough 34 = .ok (.invokevirtual 115, 3) := by decide +kernel
theorem dX5_enough_37 : decode cX5_enough 37 = .ok (.goto 4, 3) := by decide +kernel
theorem dX5_enough_40 : decode cX5_enough 40 = .ok (.iload_n 1, 1) := by decide +kernel
theorem dX5_enough_41 : decode cX5_enough 41 = .ok (.istore_n 1, 1) := by decide +kernel
theorem dX5_enough_42 : decode cX5_enough 42 = .ok (.iinc 2 1, 3) := by decide +kernel
theorem dX5_enough_45 : decode cX5_enough 45 = .ok (.goto (-32), 3) := by decide +kernel
theorem dX5_enough_48 : decode cX5_enough 48 = .ok (.iload_n 1, 1) := by decide +kernel
theorem dX5_enough_49 : decode cX5_enough 49 = .ok (.ireturn, 1) := by decide +kernel
theorem dX5_hiddenWith_0 : decode cX5_hiddenWith 0 = .ok (.aload_n 0, 1) := by decide +kernel
theorem dX5_hiddenWith_1 : decode cX5_hiddenWith 1 = .ok (.invokevirtual 140, 3) := by decide +kernel
theorem dX5_hiddenWith_4 : decode cX5_hiddenWith 4 = .ok (.aload_n 0, 1) := by decide +kernel
theorem dX5_hiddenWith_5 : decode cX5_hiddenWith 5 = .ok (.aload_n 0, 1) := by decide +kernel
theorem dX5_hiddenWith_6 : decode cX5_hiddenWith 6 = .ok (.getfield 7, 3) := by decide +kernel
theorem dX5_hiddenWith_9 : decode cX5_hiddenWith 9 = .ok (.iconst 0, 1) := by decide +kernel
theorem dX5_hiddenWith_10 : decode cX5_hiddenWith 10 = .ok (.iaload, 1) := by decide +kernel
theorem dX5_hiddenWith_11 : decode cX5_hiddenWith 11 = .ok (.aload_n 0, 1) := by decide +kernel
theorem dX5_hiddenWith_12 : decode cX5_hiddenWith 12 = .ok (.getfield 7, 3) := by decide +kernel
theorem dX5_hiddenWith_15 : decode cX5_hiddenWith 15 = .ok (.iconst 1, 1) := by decide +kernel
theorem dX5_hiddenWith_16 : decode cX5_hiddenWith 16 = .ok (.iaload, 1) := by decide +kernel
theorem dX5_hiddenWith_17 : decode cX5_hiddenWith 17 = .ok (.iload_n 1, 1) := by decide +kernel
theorem dX5_hiddenWith_18 : decode cX5_hiddenWith 18 = .ok (.invokevirtual 136, 3) := by decide +kernel
theorem dX5_hiddenWith_21 : decode cX5_hiddenWith 21 = .ok (.ireturn, 1) := by decide +kernel
theorem dX5_ifRows_0 : decode cX5_ifRows 0 = .ok (.iload_n 1, 1) := by decide +kernel
theorem dX5_ifRows_1 : decode cX5_ifRows 1 = .ok (.iconst 1, 1) := by decide +kernel
theorem dX5_ifRows_2 : decode cX5_ifRows 2 = .ok (.bipush 12, 2) := by decide +kernel
theorem dX5_ifRows_4 : decode cX5_ifRows 4 = .ok (.invokestatic 32, 3) := by decide +kernel
theorem dX5_ifRows_7 : decode cX5_ifRows 7 = .ok (.ifCond .eq 11, 3) := by decide +kernel
theorem dX5_ifRows_10 : decode cX5_ifRows 10 = .ok (.aload_n 0, 1) := by decide +kernel
theorem dX5_ifRows_11 : decode cX5_ifRows 11 = .ok (.iload_n 1, 1) := by decide +kernel
theorem dX5_ifRows_12 : decode cX5_ifRows 12 = .ok (.invokevirtual 214, 3) := by decide +kernel
theorem dX5_ifRows_15 : decode cX5_ifRows 15 = .ok (.goto 4, 3) := by decide +kernel
theorem dX5_ifRows_18 : decode cX5_ifRows 18 = .ok (.iconst (-1), 1) := by decide +kernel
theorem dX5_ifRows_19 : decode cX5_ifRows 19 = .ok (.ireturn, 1) := by decide +kernel
theorem dX5_isEmpty_0 : decode cX5_isEmpty 0 = .ok (.iconst 1, 1) := by decide +kernel
theorem dX5_isEmpty_1 : decode cX5_isEmpty 1 = .ok (.istore_n 2, 1) := by decide +kernel
theorem dX5_isEmpty_2 : decode cX5_isEmpty 2 = .ok (.iconst 0, 1) := by decide +kernel
theorem dX5_isEmpty_3 : decode cX5_isEmpty 3 = .ok (.istore_n 3, 1) := by decide +kernel
theorem dX5_isEmpty_4 : decode cX5_isEmpty 4 = .ok (.iload_n 3, 1) := by decide +kernel
theorem dX5_isEmpty_5 : decode cX5_isEmpty 5 = .ok (.aload_n 0, 1) := by decide +kernel
theorem dX5_isEmpty_6 : decode cX5_isEmpty 6 = .ok (.getfield 7, 3) := by decide +kernel
theorem dX5_isEmpty_9 : decode cX5_isEmpty 9 = .ok (.iconst 4, 1) := by decide +kernel
theorem dX5_isEmpty_10 : decode cX5_isEmpty 10 = .ok (.iaload, 1) := by decide +kernel
theorem dX5_isEmpty_11 : decode cX5_isEmpty 11 = .ok (.if_icmp .ge 28, 3) := by decide +kernel
theorem dX5_isEmpty_14 : decode cX5_isEmpty 14 = .ok (.iload_n 2, 1) := by decide +kernel
theorem dX5_isEmpty_15 : decode cX5_isEmpty 15 = .ok (.ifCond .eq 16, 3) := by decide +kernel
theorem dX5_isEmpty_18 : decode cX5_isEmpty 18 = .ok (.aload_n 0, 1) := by decide +kernel
theorem dX5_isEmpty_19 : decode cX5_isEmpty 19 = .ok (.iload_n 3, 1) := by decide +kernel
theorem dX5_isEmpty_20 : decode cX5_isEmpty 20 = .ok (.iload_n 1, 1) := by decide +kernel
theorem dX5_isEmpty_21 : decode cX5_isEmpty 21 = .ok (.invokevirtual 86, 3) := by decide +kernel
theorem dX5_isEmpty_24 : decode cX5_isEmpty 24 = .ok (.ifCond .ne 7, 3) := by decide +kernel
theorem dX5_isEmpty_27 : decode cX5_isEmpty 27 = .ok (.iconst 1, 1) := by decide +kernel
theorem dX5_isEmpty_28 : decode cX5_isEmpty 28 = .ok (.goto 4, 3) := by decide +kernel
theorem dX5_isEmpty_31 : decode cX5_isEmpty 31 = .ok (.iconst 0, 1) := by decide +kernel
theorem dX5_isEmpty_32 : decode cX5_isEmpty 32 = .ok (.istore_n 2, 1) := by decide +kernel
theorem dX5_isEmpty_33 : decode cX5_isEmpty 33 = .ok (.iinc 3 1, 3) := by decide +kernel
theorem dX5_isEmpty_36 : decode cX5_isEmpty 36 = .ok (.goto (-32), 3) := by decide +kernel
theorem dX5_isEmpty_39 : decode cX5_isEmpty 39 = .ok (.iload_n 2, 1) := by decide +kernel
theorem dX5_isEmpty_40 : decode cX5_isEmpty 40 = .ok (.ireturn, 1) := by decide +kernel
theorem dX5_free_0 : decode cX5_free 0 = .ok (.iload_n 1, 1) := by decide +kernel
theorem dX5_free_1 : decode cX5_free 1 = .ok (.iconst 1, 1) := by decide +kernel
theorem dX5_free_2 : decode cX5_free 2 = .ok (.bipush 42, 2) := by decide +kernel
theorem dX5_free_4 : decode cX5_free 4 = .ok (.invokestatic 32, 3) := by decide +kernel
theorem dX5_free_7 : decode cX5_free 7 = .ok (.ifCond .ne 5, 3) := by decide +kernel
theorem dX5_free_10 : decode cX5_free 10 = .ok (.iconst (-1), 1) := by decide +kernel
theorem dX5_free_11 : decode cX5_free 11 = .ok (.ireturn, 1) := by decide +kernel
theorem dX5_free_12 : decode cX5_free 12 = .ok (.aload_n 0, 1) := by decide +kernel
theorem dX5_free_13 : decode cX5_free 13 = .ok (.getfield 7, 3) := by decide +kernel
theorem dX5_free_16 : decode cX5_free 16 = .ok (.iconst 0, 1) := by decide +kernel
theorem dX5_free_17 : decode cX5_free 17 = .ok (.iaload, 1) := by decide +kernel
theorem dX5_free_18 : decode cX5_free 18 = .ok (.istore_n 3, 1) := by decide +kernel
theorem dX5_free_19 : decode cX5_free 19 = .ok (.iload_n 3, 1) := by decide +kernel
theorem dX5_free_20 : decode cX5_free 20 = .ok (.iload_n 1, 1) := by decide +kernel
theorem dX5_free_21 : decode cX5_free 21 = .ok (.iadd, 1) := by decide +kernel
theorem dX5_free_22 : decode cX5_free 22 = .ok (.iconst 1, 1) := by decide +kernel
theorem dX5_free_23 : decode cX5_free 23 = .ok (.isub, 1) := by decide +kernel
theorem dX5_free_24 : decode cX5_free 24 = .ok (.aload_n 0, 1) := by decide +kernel
theorem dX5_free_25 : decode cX5_free 25 = .ok (.getfield 7, 3) := by decide +kernel
theorem dX5_free_28 : decode cX5_free 28 = .ok (.iconst 1, 1) := by decide +kernel
theorem dX5_free_29 : decode cX5_free 29 = .ok (.iaload, 1) := by decide +kernel
theorem dX5_free_30 : decode cX5_free 30 = .ok (.if_icmp .gt 74, 3) := by decide +kernel
theorem dX5_free_33 : decode cX5_free 33 = .ok (.iload_n 2, 1) := by decide +kernel
theorem dX5_free_34 : decode cX5_free 34 = .ok (.ifCond .eq 20, 3) := by decide +kernel
theorem dX5_free_37 : decode cX5_free 37 = .ok (.aload_n 0, 1) := by decide +kernel
theorem dX5_free_38 : decode cX5_free 38 = .ok (.iload_n 3, 1) := by decide +kernel
theorem dX5_free_39 : decode cX5_free 39 = .ok (.invokevirtual 46, 3) := by decide +kernel
theorem dX5_free_42 : decode cX5_free 42 = .ok (.aload_n 0, 1) := by decide +kernel
theorem dX5_free_43 : decode cX5_free 43 = .ok (.iload_n 3, 1) := by decide +kernel
theorem dX5_free_44 : decode cX5_free 44 = .ok (.iload_n 1, 1) := by decide +kernel
theorem dX5_free_45 : decode cX5_free 45 = .ok (.iadd, 1) := by decide +kernel
theorem dX5_free_46 : decode cX5_free 46 = .ok (.iconst 1, 1) := by decide +kernel
theorem dX5_free_47 : decode cX5_free 47 = .ok (.isub, 1) := by decide +kernel
theorem dX5_free_48 : decode cX5_free 48 = .ok (.invokevirtual 46, 3) := by decide +kernel
theorem dX5_free_51 : decode cX5_free 51 = .ok (.if_icmp .ne 7, 3) := by decide +kernel
theorem dX5_free_54 : decode cX5_free 54 = .ok (.iconst 1, 1) := by decide +kernel
theorem dX5_free_55 : decode cX5_free 55 = .ok (.goto 4, 3) := by decide +kernel
theorem dX5_free_58 : decode cX5_free 58 = .ok (.iconst 0, 1) := by decide +kernel
theorem dX5_free_59 : decode cX5_free 59 = .ok (.istore 4, 2) := by decide +kernel
theorem dX5_free_61 : decode cX5_free 61 = .ok (.iload_n 3, 1) := by decide +kernel
theorem dX5_free_62 : decode cX5_free 62 = .ok (.istore 5, 2) := by decide +kernel
theorem dX5_free_64 : decode cX5_free 64 = .ok (.iload 5, 2) := by decide +kernel
theorem dX5_free_66 : decode cX5_free 66 = .ok (.iload_n 3, 1) := by decide +kernel
theorem dX5_free_67 : decode cX5_free 67 = .ok (.iload_n 1, 1) := by decide +kernel
theorem dX5_free_68 : decode cX5_free 68 = .ok (.iadd, 1) := by decide +kernel
theorem dX5_free_69 : decode cX5_free 69 = .ok (.if_icmp .ge 22, 3) := by decide +kernel
theorem dX5_free_72 : decode cX5_free 72 = .ok (.iload 4, 2) := by decide +kernel
theorem dX5_free_74 : decode cX5_free 74 = .ok (.ifCond .eq 17, 3) := by decide +kernel
theorem dX5_free_77 : decode cX5_free 77 = .ok (.aload_n 0, 1) := by decide +kernel
theorem dX5_free_78 : decode cX5_free 78 = .ok (.iload 5, 2) := by decide +kernel
theorem dX5_free_80 : decode cX5_free 80 = .ok (.invokevirtual 217, 3) := by decide +kernel
theorem dX5_free_83 : decode cX5_free 83 = .ok (.istore 4, 2) := by decide +kernel
theorem dX5_free_85 : decode cX5_free 85 = .ok (.iinc 5 1, 3) := by decide +kernel
theorem dX5_free_88 : decode cX5_free 88 = .ok (.goto (-24), 3) := by decide +kernel
theorem dX5_free_91 : decode cX5_free 91 = .ok (.iload 4, 2) := by decide +kernel
theorem dX5_free_93 : decode cX5_free 93 = .ok (.ifCond .eq 5, 3) := by decide +kernel
theorem dX5_free_96 : decode cX5_free 96 = .ok (.iload_n 3, 1) := by decide +kernel
theorem dX5_free_97 : decode cX5_free 97 = .ok (.ireturn, 1) := by decide +kernel
theorem dX5_free_98 : decode cX5_free 98 = .ok (.iinc 3 1, 3) := by decide +kernel
theorem dX5_free_101 : decode cX5_free 101 = .ok (.goto (-82), 3) := by decide +kernel
theorem dX5_free_104 : decode cX5_free 104 = .ok (.bipush (-9), 2) := by decide +kernel
theorem dX5_free_106 : decode cX5_free 106 = .ok (.ireturn, 1) := by decide +kernel
theorem dX5_bestDay_0 : decode cX5_bestDay 0 = .ok (.aload_n 0, 1) := by decide +kernel
theorem dX5_bestDay_1 : decode cX5_bestDay 1 = .ok (.iload_n 1, 1) := by decide +kernel
theorem dX5_bestDay_2 : decode cX5_bestDay 2 = .ok (.invokevirtual 180, 3) := by decide +kernel
theorem dX5_bestDay_5 : decode cX5_bestDay 5 = .ok (.ifCond .ne 5, 3) := by decide +kernel
theorem dX5_bestDay_8 : decode cX5_bestDay 8 = .ok (.iconst (-1), 1) := by decide +kernel
theorem dX5_bestDay_9 : decode cX5_bestDay 9 = .ok (.ireturn, 1) := by decide +kernel
theorem dX5_bestDay_10 : decode cX5_bestDay 10 = .ok (.aload_n 0, 1) := by decide +kernel
theorem dX5_bestDay_11 : decode cX5_bestDay 11 = .ok (.iload_n 1, 1) := by decide +kernel
theorem dX5_bestDay_12 : decode cX5_bestDay 12 = .ok (.invokevirtual 40, 3) := by decide +kernel
theorem dX5_bestDay_15 : decode cX5_bestDay 15 = .ok (.istore_n 2, 1) := by decide +kernel
theorem dX5_bestDay_16 : decode cX5_bestDay 16 = .ok (.bipush (-9), 2) := by decide +kernel
theorem dX5_bestDay_18 : decode cX5_bestDay 18 = .ok (.istore_n 3, 1) := by decide +kernel
theorem dX5_bestDay_19 : decode cX5_bestDay 19 = .ok (.iconst 0, 1) := by decide +kernel
theorem dX5_bestDay_20 : decode cX5_bestDay 20 = .ok (.istore 4, 2) := by decide +kernel
theorem dX5_bestDay_22 : decode cX5_bestDay 22 = .ok (.iconst 0, 1) := by decide +kernel
theorem dX5_bestDay_23 : decode cX5_bestDay 23 = .ok (.istore 5, 2) := by decide +kernel
theorem dX5_bestDay_25 : decode cX5_bestDay 25 = .ok (.aload_n 0, 1) := by decide +kernel
theorem dX5_bestDay_26 : decode cX5_bestDay 26 = .ok (.getfield 7, 3) := by decide +kernel
theorem dX5_bestDay_29 : decode cX5_bestDay 29 = .ok (.iconst 0, 1) := by decide +kernel
theorem dX5_bestDay_30 : decode cX5_bestDay 30 = .ok (.iaload, 1) := by decide +kernel
theorem dX5_bestDay_31 : decode cX5_bestDay 31 = .ok (.istore 6, 2) := by decide +kernel
theorem dX5_bestDay_33 : decode cX5_bestDay 33 = .ok (.iload 6, 2) := by decide +kernel
theorem dX5_bestDay_35 : decode cX5_bestDay 35 = .ok (.aload_n 0, 1) := by decide +kernel
theorem dX5_bestDay_36 : decode cX5_bestDay 36 = .ok (.getfield 7, 3) := by decide +kernel
theorem dX5_bestDay_39 : decode cX5_bestDay 39 = .ok (.iconst 1, 1) := by decide +kernel
theorem dX5_bestDay_40 : decode cX5_bestDay 40 = .ok (.iaload, 1) := by decide +kernel
theorem dX5_bestDay_41 : decode cX5_bestDay 41 = .ok (.if_icmp .gt 145, 3) := by decide +kernel
theorem dX5_bestDay_44 : decode cX5_bestDay 44 = .ok (.iload 6, 2) := by decide +kernel
theorem dX5_bestDay_46 : decode cX5_bestDay 46 = .ok (.iload_n 2, 1) := by decide +kernel
theorem dX5_bestDay_47 : decode cX5_bestDay 47 = .ok (.isub, 1) := by decide +kernel
theorem dX5_bestDay_48 : decode cX5_bestDay 48 = .ok (.istore 7, 2) := by decide +kernel
theorem dX5_bestDay_50 : decode cX5_bestDay 50 = .ok (.aload_n 0, 1) := by decide +kernel
theorem dX5_bestDay_51 : decode cX5_bestDay 51 = .ok (.iload_n 1, 1) := by decide +kernel
theorem dX5_bestDay_52 : decode cX5_bestDay 52 = .ok (.invokevirtual 36, 3) := by decide +kernel
theorem dX5_bestDay_55 : decode cX5_bestDay 55 = .ok (.iload 7, 2) := by decide +kernel
theorem dX5_bestDay_57 : decode cX5_bestDay 57 = .ok (.iadd, 1) := by decide +kernel
theorem dX5_bestDay_58 : decode cX5_bestDay 58 = .ok (.sipush 999, 3) := by decide +kernel
theorem dX5_bestDay_61 : decode cX5_bestDay 61 = .ok (.if_icmp .gt 119, 3) := by decide +kernel
theorem dX5_bestDay_64 : decode cX5_bestDay 64 = .ok (.aload_n 0, 1) := by decide +kernel
theorem dX5_bestDay_65 : decode cX5_bestDay 65 = .ok (.iload_n 1, 1) := by decide +kernel
theorem dX5_bestDay_66 : decode cX5_bestDay 66 = .ok (.iload 7, 2) := by decide +kernel
theorem dX5_bestDay_68 : decode cX5_bestDay 68 = .ok (.invokevirtual 183, 3) := by decide +kernel
theorem dX5_bestDay_71 : decode cX5_bestDay 71 = .ok (.aload_n 0, 1) := by decide +kernel
theorem dX5_bestDay_72 : decode cX5_bestDay 72 = .ok (.aload_n 0, 1) := by decide +kernel
theorem dX5_bestDay_73 : decode cX5_bestDay 73 = .ok (.getfield 7, 3) := by decide +kernel
theorem dX5_bestDay_76 : decode cX5_bestDay 76 = .ok (.iconst 3, 1) := by decide +kernel
theorem dX5_bestDay_77 : decode cX5_bestDay 77 = .ok (.iaload, 1) := by decide +kernel
theorem dX5_bestDay_78 : decode cX5_bestDay 78 = .ok (.invokevirtual 214, 3) := by decide +kernel
theorem dX5_bestDay_81 : decode cX5_bestDay 81 = .ok (.istore 8, 2) := by decide +kernel
theorem dX5_bestDay_83 : decode cX5_bestDay 83 = .ok (.aload_n 0, 1) := by decide +kernel
theorem dX5_bestDay_84 : decode cX5_bestDay 84 = .ok (.iload_n 1, 1) := by decide +kernel
theorem dX5_bestDay_85 : decode cX5_bestDay 85 = .ok (.iload 7, 2) := by decide +kernel
theorem dX5_bestDay_87 : decode cX5_bestDay 87 = .ok (.ineg, 1) := by decide +kernel
theorem dX5_bestDay_88 : decode cX5_bestDay 88 = .ok (.invokevirtual 183, 3) := by decide +kernel
theorem dX5_bestDay_91 : decode cX5_bestDay 91 = .ok (.iload 7, 2) := by decide +kernel
theorem dX5_bestDay_93 : decode cX5_bestDay 93 = .ok (.ifCond .ge 9, 3) := by decide +kernel
theorem dX5_bestDay_96 : decode cX5_bestDay 96 = .ok (.iload 7, 2) := by decide +kernel
theorem dX5_bestDay_98 : decode cX5_bestDay 98 = .ok (.ineg, 1) := by decide +kernel
theorem dX5_bestDay_99 : decode cX5_bestDay 99 = .ok (.goto 5, 3) := by decide +kernel
theorem dX5_bestDay_102 : decode cX5_bestDay 102 = .ok (.iload 7, 2) := by decide +kernel
theorem dX5_bestDay_104 : decode cX5_bestDay 104 = .ok (.istore 9, 2) := by decide +kernel
theorem dX5_bestDay_106 : decode cX5_bestDay 106 = .ok (.iload_n 3, 1) := by decide +kernel
theorem dX5_bestDay_107 : decode cX5_bestDay 107 = .ok (.bipush (-9), 2) := by decide +kernel
theorem dX5_bestDay_109 : decode cX5_bestDay 109 = .ok (.if_icmp .eq 24, 3) := by decide +kernel
theorem dX5_bestDay_112 : decode cX5_bestDay 112 = .ok (.iload 8, 2) := by decide +kernel
theorem dX5_bestDay_114 : decode cX5_bestDay 114 = .ok (.iload 4, 2) := by decide +kernel
theorem dX5_bestDay_116 : decode cX5_bestDay 116 = .ok (.if_icmp .lt 17, 3) := by decide +kernel
theorem dX5_bestDay_119 : decode cX5_bestDay 119 = .ok (.iload 8, 2) := by decide +kernel
theorem dX5_bestDay_121 : decode cX5_bestDay 121 = .ok (.iload 4, 2) := by decide +kernel
theorem dX5_bestDay_123 : decode cX5_bestDay 123 = .ok (.if_icmp .ne 14, 3) := by decide +kernel
theorem dX5_bestDay_126 : decode cX5_bestDay 126 = .ok (.iload 9, 2) := by decide +kernel
theorem dX5_bestDay_128 : decode cX5_bestDay 128 = .ok (.iload 5, 2) := by decide +kernel
theorem dX5_bestDay_130 : decode cX5_bestDay 130 = .ok (.if_icmp .ge 7, 3) := by decide +kernel
theorem dX5_bestDay_133 : decode cX5_bestDay 133 = .ok (.iconst 1, 1) := by decide +kernel
theorem dX5_bestDay_134 : decode cX5_bestDay 134 = .ok (.goto 4, 3) := by decide +kernel
theorem dX5_bestDay_137 : decode cX5_bestDay 137 = .ok (.iconst 0, 1) := by decide +kernel
theorem dX5_bestDay_138 : decode cX5_bestDay 138 = .ok (.istore 10, 2) := by decide +kernel
theorem dX5_bestDay_140 : decode cX5_bestDay 140 = .ok (.iload 10, 2) := by decide +kernel
theorem dX5_bestDay_142 : decode cX5_bestDay 142 = .ok (.ifCond .eq 8, 3) := by decide +kernel
theorem dX5_bestDay_145 : decode cX5_bestDay 145 = .ok (.iload 6, 2) := by decide +kernel
theorem dX5_bestDay_147 : decode cX5_bestDay 147 = .ok (.goto 4, 3) := by decide +kernel
theorem dX5_bestDay_150 : decode cX5_bestDay 150 = .ok (.iload_n 3, 1) := by decide +kernel
theorem dX5_bestDay_151 : decode cX5_bestDay 151 = .ok (.istore_n 3, 1) := by decide +kernel
theorem dX5_bestDay_152 : decode cX5_bestDay 152 = .ok (.iload 10, 2) := by decide +kernel
theorem dX5_bestDay_154 : decode cX5_bestDay 154 = .ok (.ifCond .eq 8, 3) := by decide +kernel
theorem dX5_bestDay_157 : decode cX5_bestDay 157 = .ok (.iload 8, 2) := by decide +kernel
theorem dX5_bestDay_159 : decode cX5_bestDay 159 = .ok (.goto 5, 3) := by decide +kernel
theorem dX5_bestDay_162 : decode cX5_bestDay 162 = .ok (.iload 4, 2) := by decide +kernel
theorem dX5_bestDay_164 : decode cX5_bestDay 164 = .ok (.istore 4, 2) := by decide +kernel
theorem dX5_bestDay_166 : decode cX5_bestDay 166 = .ok (.iload 10, 2) := by decide +kernel
theorem dX5_bestDay_168 : decode cX5_bestDay 168 = .ok (.ifCond .eq 8, 3) := by decide +kernel
theorem dX5_bestDay_171 : decode cX5_bestDay 171 = .ok (.iload 9, 2) := by decide +kernel
theorem dX5_bestDay_173 : decode cX5_bestDay 173 = .ok (.goto 5, 3) := by decide +kernel
theorem dX5_bestDay_176 : decode cX5_bestDay 176 = .ok (.iload 5, 2) := by decide +kernel
theorem dX5_bestDay_178 : decode cX5_bestDay 178 = .ok (.istore 5, 2) := by decide +kernel
theorem dX5_bestDay_180 : decode cX5_bestDay 180 = .ok (.iinc 6 1, 3) := by decide +kernel
theorem dX5_bestDay_183 : decode cX5_bestDay 183 = .ok (.goto (-150), 3) := by decide +kernel
theorem dX5_bestDay_186 : decode cX5_bestDay 186 = .ok (.iload_n 3, 1) := by decide +kernel
theorem dX5_bestDay_187 : decode cX5_bestDay 187 = .ok (.ireturn, 1) := by decide +kernel
theorem dX5_longOnes_0 : decode cX5_longOnes 0 = .ok (.iconst 0, 1) := by decide +kernel
theorem dX5_longOnes_1 : decode cX5_longOnes 1 = .ok (.istore_n 1, 1) := by decide +kernel
theorem dX5_longOnes_2 : decode cX5_longOnes 2 = .ok (.iconst 0, 1) := by decide +kernel
theorem dX5_longOnes_3 : decode cX5_longOnes 3 = .ok (.istore_n 2, 1) := by decide +kernel
theorem dX5_longOnes_4 : decode cX5_longOnes 4 = .ok (.iload_n 2, 1) := by decide +kernel
theorem dX5_longOnes_5 : decode cX5_longOnes 5 = .ok (.aload_n 0, 1) := by decide +kernel
theorem dX5_longOnes_6 : decode cX5_longOnes 6 = .ok (.getfield 7, 3) := by decide +kernel
theorem dX5_longOnes_9 : decode cX5_longOnes 9 = .ok (.iconst 4, 1) := by decide +kernel
theorem dX5_longOnes_10 : decode cX5_longOnes 10 = .ok (.iaload, 1) := by decide +kernel
theorem dX5_longOnes_11 : decode cX5_longOnes 11 = .ok (.if_icmp .ge 25, 3) := by decide +kernel
theorem dX5_longOnes_14 : decode cX5_longOnes 14 = .ok (.iload_n 1, 1) := by decide +kernel
theorem dX5_longOnes_15 : decode cX5_longOnes 15 = .ok (.aload_n 0, 1) := by decide +kernel
theorem dX5_longOnes_16 : decode cX5_longOnes 16 = .ok (.iload_n 2, 1) := by decide +kernel
theorem dX5_longOnes_17 : decode cX5_longOnes 17 = .ok (.invokevirtual 73, 3) := by decide +kernel
theorem dX5_longOnes_20 : decode cX5_longOnes 20 = .ok (.ifCond .eq 7, 3) := by decide +kernel
theorem dX5_longOnes_23 : decode cX5_longOnes 23 = .ok (.iconst 1, 1) := by decide +kernel
theorem dX5_longOnes_24 : decode cX5_longOnes 24 = .ok (.goto 4, 3) := by decide +kernel
theorem dX5_longOnes_27 : decode cX5_longOnes 27 = .ok (.iconst 0, 1) := by decide +kernel
theorem dX5_longOnes_28 : decode cX5_longOnes 28 = .ok (.iadd, 1) := by decide +kernel
theorem dX5_longOnes_29 : decode cX5_longOnes 29 = .ok (.istore_n 1, 1) := by decide +kernel
theorem dX5_longOnes_30 : decode cX5_longOnes 30 = .ok (.iinc 2 1, 3) := by decide +kernel
theorem dX5_longOnes_33 : decode cX5_longOnes 33 = .ok (.goto (-29), 3) := by decide +kernel
theorem dX5_longOnes_36 : decode cX5_longOnes 36 = .ok (.iload_n 1, 1) := by decide +kernel
theorem dX5_longOnes_37 : decode cX5_longOnes 37 = .ok (.ireturn, 1) := by decide +kernel
theorem dX5_present_0 : decode cX5_present 0 = .ok (.iconst 0, 1) := by decide +kernel
theorem dX5_present_1 : decode cX5_present 1 = .ok (.istore_n 1, 1) := by decide +kernel
theorem dX5_present_2 : decode cX5_present 2 = .ok (.iconst 0, 1) := by decide +kernel
theorem dX5_present_3 : decode cX5_present 3 = .ok (.istore_n 2, 1) := by decide +kernel
theorem dX5_present_4 : decode cX5_present 4 = .ok (.iload_n 2, 1) := by decide +kernel
theorem dX5_present_5 : decode cX5_present 5 = .ok (.aload_n 0, 1) := by decide +kernel
theorem dX5_present_6 : decode cX5_present 6 = .ok (.getfield 7, 3) := by decide +kernel
theorem dX5_present_9 : decode cX5_present 9 = .ok (.iconst 4, 1) := by decide +kernel
theorem dX5_present_10 : decode cX5_present 10 = .ok (.iaload, 1) := by decide +kernel
theorem dX5_present_11 : decode cX5_present 11 = .ok (.if_icmp .ge 45, 3) := by decide +kernel
theorem dX5_present_14 : decode cX5_present 14 = .ok (.iload_n 1, 1) := by decide +kernel
theorem dX5_present_15 : decode cX5_present 15 = .ok (.aload_n 0, 1) := by decide +kernel
theorem dX5_present_16 : decode cX5_present 16 = .ok (.iload_n 2, 1) := by decide +kernel
theorem dX5_present_17 : decode cX5_present 17 = .ok (.invokevirtual 40, 3) := by decide +kernel
theorem dX5_present_20 : decode cX5_present 20 = .ok (.aload_n 0, 1) := by decide +kernel
theorem dX5_present_21 : decode cX5_present 21 = .ok (.getfield 7, 3) := by decide +kernel
theorem dX5_present_24 : decode cX5_present 24 = .ok (.iconst 1, 1) := by decide +kernel
theorem dX5_present_25 : decode cX5_present 25 = .ok (.iaload, 1) := by decide +kernel
theorem dX5_present_26 : decode cX5_present 26 = .ok (.if_icmp .gt 21, 3) := by decide +kernel
theorem dX5_present_29 : decode cX5_present 29 = .ok (.aload_n 0, 1) := by decide +kernel
theorem dX5_present_30 : decode cX5_present 30 = .ok (.iload_n 2, 1) := by decide +kernel
theorem dX5_present_31 : decode cX5_present 31 = .ok (.invokevirtual 36, 3) := by decide +kernel
theorem dX5_present_34 : decode cX5_present 34 = .ok (.aload_n 0, 1) := by decide +kernel
theorem dX5_present_35 : decode cX5_present 35 = .ok (.getfield 7, 3) := by decide +kernel
theorem dX5_present_38 : decode cX5_present 38 = .ok (.iconst 0, 1) := by decide +kernel
theorem dX5_present_39 : decode cX5_present 39 = .ok (.iaload, 1) := by decide +kernel
theorem dX5_present_40 : decode cX5_present 40 = .ok (.if_icmp .lt 7, 3) := by decide +kernel
theorem dX5_present_43 : decode cX5_present 43 = .ok (.iconst 1, 1) := by decide +kernel
theorem dX5_present_44 : decode cX5_present 44 = .ok (.goto 4, 3) := by decide +kernel
theorem dX5_present_47 : decode cX5_present 47 = .ok (.iconst 0, 1) := by decide +kernel
theorem dX5_present_48 : decode cX5_present 48 = .ok (.iadd, 1) := by decide +kernel
theorem dX5_present_49 : decode cX5_present 49 = .ok (.istore_n 1, 1) := by decide +kernel
theorem dX5_present_50 : decode cX5_present 50 = .ok (.iinc 2 1, 3) := by decide +kernel
theorem dX5_present_53 : decode cX5_present 53 = .ok (.goto (-49), 3) := by decide +kernel
theorem dX5_present_56 : decode cX5_present 56 = .ok (.iload_n 1, 1) := by decide +kernel
theorem dX5_present_57 : decode cX5_present 57 = .ok (.ireturn, 1) := by decide +kernel
theorem dX5_bars_0 : decode cX5_bars 0 = .ok (.aload_n 0, 1) := by decide +kernel
theorem dX5_bars_1 : decode cX5_bars 1 = .ok (.invokevirtual 140, 3) := by decide +kernel
theorem dX5_bars_4 : decode cX5_bars 4 = .ok (.iconst 0, 1) := by decide +kernel
theorem dX5_bars_5 : decode cX5_bars 5 = .ok (.istore_n 1, 1) := by decide +kernel
theorem dX5_bars_6 : decode cX5_bars 6 = .ok (.iconst 0, 1) := by decide +kernel
theorem dX5_bars_7 : decode cX5_bars 7 = .ok (.istore_n 2, 1) := by decide +kernel
theorem dX5_bars_8 : decode cX5_bars 8 = .ok (.iload_n 2, 1) := by decide +kernel
theorem dX5_bars_9 : decode cX5_bars 9 = .ok (.aload_n 0, 1) := by decide +kernel
theorem dX5_bars_10 : decode cX5_bars 10 = .ok (.getfield 7, 3) := by decide +kernel
theorem dX5_bars_13 : decode cX5_bars 13 = .ok (.iconst 4, 1) := by decide +kernel
theorem dX5_bars_14 : decode cX5_bars 14 = .ok (.iaload, 1) := by decide +kernel
theorem dX5_bars_15 : decode cX5_bars 15 = .ok (.if_icmp .ge 17, 3) := by decide +kernel
theorem dX5_bars_18 : decode cX5_bars 18 = .ok (.iload_n 1, 1) := by decide +kernel
theorem dX5_bars_19 : decode cX5_bars 19 = .ok (.aload_n 0, 1) := by decide +kernel
theorem dX5_bars_20 : decode cX5_bars 20 = .ok (.iload_n 2, 1) := by decide +kernel
theorem dX5_bars_21 : decode cX5_bars 21 = .ok (.invokevirtual 186, 3) := by decide +kernel
theorem dX5_bars_24 : decode cX5_bars 24 = .ok (.iadd, 1) := by decide +kernel
theorem dX5_bars_25 : decode cX5_bars 25 = .ok (.istore_n 1, 1) := by decide +kernel
theorem dX5_bars_26 : decode cX5_bars 26 = .ok (.iinc 2 1, 3) := by decide +kernel
theorem dX5_bars_29 : decode cX5_bars 29 = .ok (.goto (-21), 3) := by decide +kernel
theorem dX5_bars_32 : decode cX5_bars 32 = .ok (.iload_n 1, 1) := by decide +kernel
theorem dX5_bars_33 : decode cX5_bars 33 = .ok (.ireturn, 1) := by decide +kernel
theorem dX5_told_0 : decode cX5_told 0 = .ok (.iload_n 1, 1) := by decide +kernel
theorem dX5_told_1 : decode cX5_told 1 = .ok (.tableswitch 118 0 11 #[63, 63, 63, 63, 70, 75, 82, 87, 92, 97, 108, 113], 63) := by decide +kernel
theorem dX5_told_64 : decode cX5_told 64 = .ok (.aload_n 0, 1) := by decide +kernel
theorem dX5_told_65 : decode cX5_told 65 = .ok (.getfield 7, 3) := by decide +kernel
theorem dX5_told_68 : decode cX5_told 68 = .ok (.iload_n 1, 1) := by decide +kernel
theorem dX5_told_69 : decode cX5_told 69 = .ok (.iaload, 1) := by decide +kernel
theorem dX5_told_70 : decode cX5_told 70 = .ok (.ireturn, 1) := by decide +kernel
theorem dX5_told_71 : decode cX5_told 71 = .ok (.aload_n 0, 1) := by decide +kernel
theorem dX5_told_72 : decode cX5_told 72 = .ok (.invokevirtual 56, 3) := by decide +kernel
theorem dX5_told_75 : decode cX5_told 75 = .ok (.ireturn, 1) := by decide +kernel
theorem dX5_told_76 : decode cX5_told 76 = .ok (.aload_n 0, 1) := by decide +kernel
theorem dX5_told_77 : decode cX5_told 77 = .ok (.getfield 7, 3) := by decide +kernel
theorem dX5_told_80 : decode cX5_told 80 = .ok (.iconst 4, 1) := by decide +kernel
theorem dX5_told_81 : decode cX5_told 81 = .ok (.iaload, 1) := by decide +kernel
theorem dX5_told_82 : decode cX5_told 82 = .ok (.ireturn, 1) := by decide +kernel
theorem dX5_told_83 : decode cX5_told 83 = .ok (.aload_n 0, 1) := by decide +kernel
theorem dX5_told_84 : decode cX5_told 84 = .ok (.invokevirtual 220, 3) := by decide +kernel
theorem dX5_told_87 : decode cX5_told 87 = .ok (.ireturn, 1) := by decide +kernel
theorem dX5_told_88 : decode cX5_told 88 = .ok (.aload_n 0, 1) := by decide +kernel
theorem dX5_told_89 : decode cX5_told 89 = .ok (.invokevirtual 223, 3) := by decide +kernel
theorem dX5_told_92 : decode cX5_told 92 = .ok (.ireturn, 1) := by decide +kernel
theorem dX5_told_93 : decode cX5_told 93 = .ok (.aload_n 0, 1) := by decide +kernel
theorem dX5_told_94 : decode cX5_told 94 = .ok (.invokevirtual 226, 3) := by decide +kernel
theorem dX5_told_97 : decode cX5_told 97 = .ok (.ireturn, 1) := by decide +kernel
theorem dX5_told_98 : decode cX5_told 98 = .ok (.aload_n 0, 1) := by decide +kernel
theorem dX5_told_99 : decode cX5_told 99 = .ok (.aload_n 0, 1) := by decide +kernel
theorem dX5_told_100 : decode cX5_told 100 = .ok (.getfield 7, 3) := by decide +kernel
theorem dX5_told_103 : decode cX5_told 103 = .ok (.iconst 3, 1) := by decide +kernel
theorem dX5_told_104 : decode cX5_told 104 = .ok (.iaload, 1) := by decide +kernel
theorem dX5_told_105 : decode cX5_told 105 = .ok (.invokevirtual 214, 3) := by decide +kernel
theorem dX5_told_108 : decode cX5_told 108 = .ok (.ireturn, 1) := by decide +kernel
theorem dX5_told_109 : decode cX5_told 109 = .ok (.aload_n 0, 1) := by decide +kernel
theorem dX5_told_110 : decode cX5_told 110 = .ok (.getfield 146, 3) := by decide +kernel
theorem dX5_told_113 : decode cX5_told 113 = .ok (.ireturn, 1) := by decide +kernel
theorem dX5_told_114 : decode cX5_told 114 = .ok (.aload_n 0, 1) := by decide +kernel
theorem dX5_told_115 : decode cX5_told 115 = .ok (.getfield 28, 3) := by decide +kernel
theorem dX5_told_118 : decode cX5_told 118 = .ok (.ireturn, 1) := by decide +kernel
theorem dX5_told_119 : decode cX5_told 119 = .ok (.iconst (-1), 1) := by decide +kernel
theorem dX5_told_120 : decode cX5_told 120 = .ok (.ireturn, 1) := by decide +kernel
theorem dX5_undo_0 : decode cX5_undo 0 = .ok (.aload_n 0, 1) := by decide +kernel
theorem dX5_undo_1 : decode cX5_undo 1 = .ok (.getfield 28, 3) := by decide +kernel
theorem dX5_undo_4 : decode cX5_undo 4 = .ok (.ifCond .ne 6, 3) := by decide +kernel
theorem dX5_undo_7 : decode cX5_undo 7 = .ok (.bipush (-2), 2) := by decide +kernel
theorem dX5_undo_9 : decode cX5_undo 9 = .ok (.ireturn, 1) := by decide +kernel
theorem dX5_undo_10 : decode cX5_undo 10 = .ok (.iconst 0, 1) := by decide +kernel
theorem dX5_undo_11 : decode cX5_undo 11 = .ok (.istore_n 1, 1) := by decide +kernel
theorem dX5_undo_12 : decode cX5_undo 12 = .ok (.iload_n 1, 1) := by decide +kernel
theorem dX5_undo_13 : decode cX5_undo 13 = .ok (.bipush 101, 2) := by decide +kernel
theorem dX5_undo_15 : decode cX5_undo 15 = .ok (.if_icmp .ge 29, 3) := by decide +kernel
theorem dX5_undo_18 : decode cX5_undo 18 = .ok (.aload_n 0, 1) := by decide +kernel
theorem dX5_undo_19 : decode cX5_undo 19 = .ok (.getfield 7, 3) := by decide +kernel
theorem dX5_undo_22 : decode cX5_undo 22 = .ok (.iload_n 1, 1) := by decide +kernel
theorem dX5_undo_23 : decode cX5_undo 23 = .ok (.aload_n 0, 1) := by decide +kernel
theorem dX5_undo_24 : decode cX5_undo 24 = .ok (.getfield 7, 3) := by decide +kernel
theorem dX5_undo_27 : decode cX5_undo 27 = .ok (.bipush 101, 2) := by decide +kernel
theorem dX5_undo_29 : decode cX5_undo 29 = .ok (.aload_n 0, 1) := by decide +kernel
theorem dX5_undo_30 : decode cX5_undo 30 = .ok (.getfield 28, 3) := by decide +kernel
theorem dX5_undo_33 : decode cX5_undo 33 = .ok (.imul, 1) := by decide +kernel
theorem dX5_undo_34 : decode cX5_undo 34 = .ok (.iload_n 1, 1) := by decide +kernel
theorem dX5_undo_35 : decode cX5_undo 35 = .ok (.iadd, 1) := by decide +kernel
theorem dX5_undo_36 : decode cX5_undo 36 = .ok (.iaload, 1) := by decide +kernel
theorem dX5_undo_37 : decode cX5_undo 37 = .ok (.iastore, 1) := by decide +kernel
theorem dX5_undo_38 : decode cX5_undo 38 = .ok (.iinc 1 1, 3) := by decide +kernel
theorem dX5_undo_41 : decode cX5_undo 41 = .ok (.goto (-29), 3) := by decide +kernel
theorem dX5_undo_44 : decode cX5_undo 44 = .ok (.aload_n 0, 1) := by decide +kernel
theorem dX5_undo_45 : decode cX5_undo 45 = .ok (.dup, 1) := by decide +kernel
theorem dX5_undo_46 : decode cX5_undo 46 = .ok (.getfield 28, 3) := by decide +kernel
theorem dX5_undo_49 : decode cX5_undo 49 = .ok (.iconst 1, 1) := by decide +kernel
theorem dX5_undo_50 : decode cX5_undo 50 = .ok (.isub, 1) := by decide +kernel
theorem dX5_undo_51 : decode cX5_undo 51 = .ok (.putfield 28, 3) := by decide +kernel
theorem dX5_undo_54 : decode cX5_undo 54 = .ok (.aload_n 0, 1) := by decide +kernel
theorem dX5_undo_55 : decode cX5_undo 55 = .ok (.getfield 28, 3) := by decide +kernel
theorem dX5_undo_58 : decode cX5_undo 58 = .ok (.ireturn, 1) := by decide +kernel
theorem dX5_mixedEntry_0 : decode cX5_mixedEntry 0 = .ok (.lload_n 1, 1) := by decide +kernel
theorem dX5_mixedEntry_1 : decode cX5_mixedEntry 1 = .ok (.lstore 4, 2) := by decide +kernel
theorem dX5_mixedEntry_3 : decode cX5_mixedEntry 3 = .ok (.iconst 0, 1) := by decide +kernel
theorem dX5_mixedEntry_4 : decode cX5_mixedEntry 4 = .ok (.istore 6, 2) := by decide +kernel
theorem dX5_mixedEntry_6 : decode cX5_mixedEntry 6 = .ok (.iload 6, 2) := by decide +kernel
theorem dX5_mixedEntry_8 : decode cX5_mixedEntry 8 = .ok (.bipush 7, 2) := by decide +kernel
theorem dX5_mixedEntry_10 : decode cX5_mixedEntry 10 = .ok (.if_icmp .gt 26, 3) := by decide +kernel
theorem dX5_mixedEntry_13 : decode cX5_mixedEntry 13 = .ok (.ldc2_w 229, 3) := by decide +kernel
theorem dX5_mixedEntry_16 : decode cX5_mixedEntry 16 = .ok (.lload 4, 2) := by decide +kernel
theorem dX5_mixedEntry_18 : decode cX5_mixedEntry 18 = .ok (.lmul, 1) := by decide +kernel
theorem dX5_mixedEntry_19 : decode cX5_mixedEntry 19 = .ok (.aload_n 0, 1) := by decide +kernel
theorem dX5_mixedEntry_20 : decode cX5_mixedEntry 20 = .ok (.iload_n 3, 1) := by decide +kernel
theorem dX5_mixedEntry_21 : decode cX5_mixedEntry 21 = .ok (.iload 6, 2) := by decide +kernel
theorem dX5_mixedEntry_23 : decode cX5_mixedEntry 23 = .ok (.invokevirtual 193, 3) := by decide +kernel
theorem dX5_mixedEntry_26 : decode cX5_mixedEntry 26 = .ok (.i2l, 1) := by decide +kernel
theorem dX5_mixedEntry_27 : decode cX5_mixedEntry 27 = .ok (.ladd, 1) := by decide +kernel
theorem dX5_mixedEntry_28 : decode cX5_mixedEntry 28 = .ok (.lstore 4, 2) := by decide +kernel
theorem dX5_mixedEntry_30 : decode cX5_mixedEntry 30 = .ok (.iinc 6 1, 3) := by decide +kernel
theorem dX5_mixedEntry_33 : decode cX5_mixedEntry 33 = .ok (.goto (-27), 3) := by decide +kernel
theorem dX5_mixedEntry_36 : decode cX5_mixedEntry 36 = .ok (.iconst 0, 1) := by decide +kernel
theorem dX5_mixedEntry_37 : decode cX5_mixedEntry 37 = .ok (.istore 6, 2) := by decide +kernel
theorem dX5_mixedEntry_39 : decode cX5_mixedEntry 39 = .ok (.iload 6, 2) := by decide +kernel
theorem dX5_mixedEntry_41 : decode cX5_mixedEntry 41 = .ok (.aload_n 0, 1) := by decide +kernel
theorem dX5_mixedEntry_42 : decode cX5_mixedEntry 42 = .ok (.invokevirtual 56, 3) := by decide +kernel
theorem dX5_mixedEntry_45 : decode cX5_mixedEntry 45 = .ok (.if_icmp .ge 58, 3) := by decide +kernel
theorem dX5_mixedEntry_48 : decode cX5_mixedEntry 48 = .ok (.iconst 0, 1) := by decide +kernel
theorem dX5_mixedEntry_49 : decode cX5_mixedEntry 49 = .ok (.istore 7, 2) := by decide +kernel
theorem dX5_mixedEntry_51 : decode cX5_mixedEntry 51 = .ok (.iload 7, 2) := by decide +kernel
theorem dX5_mixedEntry_53 : decode cX5_mixedEntry 53 = .ok (.iconst 4, 1) := by decide +kernel
theorem dX5_mixedEntry_54 : decode cX5_mixedEntry 54 = .ok (.if_icmp .gt 43, 3) := by decide +kernel
theorem dX5_mixedEntry_57 : decode cX5_mixedEntry 57 = .ok (.ldc2_w 229, 3) := by decide +kernel
theorem dX5_mixedEntry_60 : decode cX5_mixedEntry 60 = .ok (.lload 4, 2) := by decide +kernel
theorem dX5_mixedEntry_62 : decode cX5_mixedEntry 62 = .ok (.lmul, 1) := by decide +kernel
theorem dX5_mixedEntry_63 : decode cX5_mixedEntry 63 = .ok (.aload_n 0, 1) := by decide +kernel
theorem dX5_mixedEntry_64 : decode cX5_mixedEntry 64 = .ok (.iload_n 3, 1) := by decide +kernel
theorem dX5_mixedEntry_65 : decode cX5_mixedEntry 65 = .ok (.iload 6, 2) := by decide +kernel
theorem dX5_mixedEntry_67 : decode cX5_mixedEntry 67 = .ok (.invokevirtual 196, 3) := by decide +kernel
theorem dX5_mixedEntry_70 : decode cX5_mixedEntry 70 = .ok (.ifCond .eq 15, 3) := by decide +kernel
theorem dX5_mixedEntry_73 : decode cX5_mixedEntry 73 = .ok (.aload_n 0, 1) := by decide +kernel
theorem dX5_mixedEntry_74 : decode cX5_mixedEntry 74 = .ok (.iload_n 3, 1) := by decide +kernel
theorem dX5_mixedEntry_75 : decode cX5_mixedEntry 75 = .ok (.iload 6, 2) := by decide +kernel
theorem dX5_mixedEntry_77 : decode cX5_mixedEntry 77 = .ok (.iload 7, 2) := by decide +kernel
theorem dX5_mixedEntry_79 : decode cX5_mixedEntry 79 = .ok (.invokevirtual 199, 3) := by decide +kernel
theorem dX5_mixedEntry_82 : decode cX5_mixedEntry 82 = .ok (.goto 5, 3) := by decide +kernel
theorem dX5_mixedEntry_85 : decode cX5_mixedEntry 85 = .ok (.bipush (-9), 2) := by decide +kernel
theorem dX5_mixedEntry_87 : decode cX5_mixedEntry 87 = .ok (.i2l, 1) := by decide +kernel
theorem dX5_mixedEntry_88 : decode cX5_mixedEntry 88 = .ok (.ladd, 1) := by decide +kernel
theorem dX5_mixedEntry_89 : decode cX5_mixedEntry 89 = .ok (.lstore 4, 2) := by decide +kernel
theorem dX5_mixedEntry_91 : decode cX5_mixedEntry 91 = .ok (.iinc 7 1, 3) := by decide +kernel
theorem dX5_mixedEntry_94 : decode cX5_mixedEntry 94 = .ok (.goto (-43), 3) := by decide +kernel
theorem dX5_mixedEntry_97 : decode cX5_mixedEntry 97 = .ok (.iinc 6 1, 3) := by decide +kernel
theorem dX5_mixedEntry_100 : decode cX5_mixedEntry 100 = .ok (.goto (-61), 3) := by decide +kernel
theorem dX5_mixedEntry_103 : decode cX5_mixedEntry 103 = .ok (.lload 4, 2) := by decide +kernel
theorem dX5_mixedEntry_105 : decode cX5_mixedEntry 105 = .ok (.lreturn, 1) := by decide +kernel
theorem dX5_mixedDay_0 : decode cX5_mixedDay 0 = .ok (.lload_n 1, 1) := by decide +kernel
theorem dX5_mixedDay_1 : decode cX5_mixedDay 1 = .ok (.lstore 4, 2) := by decide +kernel
theorem dX5_mixedDay_3 : decode cX5_mixedDay 3 = .ok (.iconst 0, 1) := by decide +kernel
theorem dX5_mixedDay_4 : decode cX5_mixedDay 4 = .ok (.istore 6, 2) := by decide +kernel
theorem dX5_mixedDay_6 : decode cX5_mixedDay 6 = .ok (.iload 6, 2) := by decide +kernel
theorem dX5_mixedDay_8 : decode cX5_mixedDay 8 = .ok (.iconst 5, 1) := by decide +kernel
theorem dX5_mixedDay_9 : decode cX5_mixedDay 9 = .ok (.if_icmp .gt 26, 3) := by decide +kernel
theorem dX5_mixedDay_12 : decode cX5_mixedDay 12 = .ok (.ldc2_w 229, 3) := by decide +kernel
theorem dX5_mixedDay_15 : decode cX5_mixedDay 15 = .ok (.lload 4, 2) := by decide +kernel
theorem dX5_mixedDay_17 : decode cX5_mixedDay 17 = .ok (.lmul, 1) := by decide +kernel
theorem dX5_mixedDay_18 : decode cX5_mixedDay 18 = .ok (.aload_n 0, 1) := by decide +kernel
theorem dX5_mixedDay_19 : decode cX5_mixedDay 19 = .ok (.iload_n 3, 1) := by decide +kernel
theorem dX5_mixedDay_20 : decode cX5_mixedDay 20 = .ok (.iload 6, 2) := by decide +kernel
theorem dX5_mixedDay_22 : decode cX5_mixedDay 22 = .ok (.invokevirtual 211, 3) := by decide +kernel
theorem dX5_mixedDay_25 : decode cX5_mixedDay 25 = .ok (.i2l, 1) := by decide +kernel
theorem dX5_mixedDay_26 : decode cX5_mixedDay 26 = .ok (.ladd, 1) := by decide +kernel
theorem dX5_mixedDay_27 : decode cX5_mixedDay 27 = .ok (.lstore 4, 2) := by decide +kernel
theorem dX5_mixedDay_29 : decode cX5_mixedDay 29 = .ok (.iinc 6 1, 3) := by decide +kernel
theorem dX5_mixedDay_32 : decode cX5_mixedDay 32 = .ok (.goto (-26), 3) := by decide +kernel
theorem dX5_mixedDay_35 : decode cX5_mixedDay 35 = .ok (.iconst 0, 1) := by decide +kernel
theorem dX5_mixedDay_36 : decode cX5_mixedDay 36 = .ok (.istore 6, 2) := by decide +kernel
theorem dX5_mixedDay_38 : decode cX5_mixedDay 38 = .ok (.iload 6, 2) := by decide +kernel
theorem dX5_mixedDay_40 : decode cX5_mixedDay 40 = .ok (.bipush 12, 2) := by decide +kernel
theorem dX5_mixedDay_42 : decode cX5_mixedDay 42 = .ok (.if_icmp .ge 26, 3) := by decide +kernel
theorem dX5_mixedDay_45 : decode cX5_mixedDay 45 = .ok (.ldc2_w 229, 3) := by decide +kernel
theorem dX5_mixedDay_48 : decode cX5_mixedDay 48 = .ok (.lload 4, 2) := by decide +kernel
theorem dX5_mixedDay_50 : decode cX5_mixedDay 50 = .ok (.lmul, 1) := by decide +kernel
theorem dX5_mixedDay_51 : decode cX5_mixedDay 51 = .ok (.aload_n 0, 1) := by decide +kernel
theorem dX5_mixedDay_52 : decode cX5_mixedDay 52 = .ok (.iload_n 3, 1) := by decide +kernel
theorem dX5_mixedDay_53 : decode cX5_mixedDay 53 = .ok (.iload 6, 2) := by decide +kernel
theorem dX5_mixedDay_55 : decode cX5_mixedDay 55 = .ok (.invokevirtual 205, 3) := by decide +kernel
theorem dX5_mixedDay_58 : decode cX5_mixedDay 58 = .ok (.i2l, 1) := by decide +kernel
theorem dX5_mixedDay_59 : decode cX5_mixedDay 59 = .ok (.ladd, 1) := by decide +kernel
theorem dX5_mixedDay_60 : decode cX5_mixedDay 60 = .ok (.lstore 4, 2) := by decide +kernel
theorem dX5_mixedDay_62 : decode cX5_mixedDay 62 = .ok (.iinc 6 1, 3) := by decide +kernel
theorem dX5_mixedDay_65 : decode cX5_mixedDay 65 = .ok (.goto (-27), 3) := by decide +kernel
theorem dX5_mixedDay_68 : decode cX5_mixedDay 68 = .ok (.lload 4, 2) := by decide +kernel
theorem dX5_mixedDay_70 : decode cX5_mixedDay 70 = .ok (.lreturn, 1) := by decide +kernel
theorem dX5_digest_0 : decode cX5_digest 0 = .ok (.ldc2_w 231, 3) := by decide +kernel
theorem dX5_digest_3 : decode cX5_digest 3 = .ok (.lstore_n 1, 1) := by decide +kernel
theorem dX5_digest_4 : decode cX5_digest 4 = .ok (.iconst 0, 1) := by decide +kernel
theorem dX5_digest_5 : decode cX5_digest 5 = .ok (.istore_n 3, 1) := by decide +kernel
theorem dX5_digest_6 : decode cX5_digest 6 = .ok (.iload_n 3, 1) := by decide +kernel
theorem dX5_digest_7 : decode cX5_digest 7 = .ok (.bipush 11, 2) := by decide +kernel
theorem dX5_digest_9 : decode cX5_digest 9 = .ok (.if_icmp .gt 22, 3) := by decide +kernel
theorem dX5_digest_12 : decode cX5_digest 12 = .ok (.ldc2_w 229, 3) := by decide +kernel
theorem dX5_digest_15 : decode cX5_digest 15 = .ok (.lload_n 1, 1) := by decide +kernel
theorem dX5_digest_16 : decode cX5_digest 16 = .ok (.lmul, 1) := by decide +kernel
theorem dX5_digest_17 : decode cX5_digest 17 = .ok (.aload_n 0, 1) := by decide +kernel
theorem dX5_digest_18 : decode cX5_digest 18 = .ok (.iload_n 3, 1) := by decide +kernel
theorem dX5_digest_19 : decode cX5_digest 19 = .ok (.invokevirtual 233, 3) := by decide +kernel
theorem dX5_digest_22 : decode cX5_digest 22 = .ok (.i2l, 1) := by decide +kernel
theorem dX5_digest_23 : decode cX5_digest 23 = .ok (.ladd, 1) := by decide +kernel
theorem dX5_digest_24 : decode cX5_digest 24 = .ok (.lstore_n 1, 1) := by decide +kernel
theorem dX5_digest_25 : decode cX5_digest 25 = .ok (.iinc 3 1, 3) := by decide +kernel
theorem dX5_digest_28 : decode cX5_digest 28 = .ok (.goto (-22), 3) := by decide +kernel
theorem dX5_digest_31 : decode cX5_digest 31 = .ok (.aload_n 0, 1) := by decide +kernel
theorem dX5_digest_32 : decode cX5_digest 32 = .ok (.invokevirtual 140, 3) := by decide +kernel
theorem dX5_digest_35 : decode cX5_digest 35 = .ok (.iconst 0, 1) := by decide +kernel
theorem dX5_digest_36 : decode cX5_digest 36 = .ok (.istore_n 3, 1) := by decide +kernel
theorem dX5_digest_37 : decode cX5_digest 37 = .ok (.iload_n 3, 1) := by decide +kernel
theorem dX5_digest_38 : decode cX5_digest 38 = .ok (.aload_n 0, 1) := by decide +kernel
theorem dX5_digest_39 : decode cX5_digest 39 = .ok (.getfield 7, 3) := by decide +kernel
theorem dX5_digest_42 : decode cX5_digest 42 = .ok (.iconst 4, 1) := by decide +kernel
theorem dX5_digest_43 : decode cX5_digest 43 = .ok (.iaload, 1) := by decide +kernel
theorem dX5_digest_44 : decode cX5_digest 44 = .ok (.if_icmp .ge 16, 3) := by decide +kernel
theorem dX5_digest_47 : decode cX5_digest 47 = .ok (.aload_n 0, 1) := by decide +kernel
theorem dX5_digest_48 : decode cX5_digest 48 = .ok (.lload_n 1, 1) := by decide +kernel
theorem dX5_digest_49 : decode cX5_digest 49 = .ok (.iload_n 3, 1) := by decide +kernel
theorem dX5_digest_50 : decode cX5_digest 50 = .ok (.invokevirtual 236, 3) := by decide +kernel
theorem dX5_digest_53 : decode cX5_digest 53 = .ok (.lstore_n 1, 1) := by decide +kernel
theorem dX5_digest_54 : decode cX5_digest 54 = .ok (.iinc 3 1, 3) := by decide +kernel
theorem dX5_digest_57 : decode cX5_digest 57 = .ok (.goto (-20), 3) := by decide +kernel
theorem dX5_digest_60 : decode cX5_digest 60 = .ok (.iconst 0, 1) := by decide +kernel
theorem dX5_digest_61 : decode cX5_digest 61 = .ok (.istore_n 3, 1) := by decide +kernel
theorem dX5_digest_62 : decode cX5_digest 62 = .ok (.iload_n 3, 1) := by decide +kernel
theorem dX5_digest_63 : decode cX5_digest 63 = .ok (.aload_n 0, 1) := by decide +kernel
theorem dX5_digest_64 : decode cX5_digest 64 = .ok (.invokevirtual 56, 3) := by decide +kernel
theorem dX5_digest_67 : decode cX5_digest 67 = .ok (.if_icmp .ge 39, 3) := by decide +kernel
theorem dX5_digest_70 : decode cX5_digest 70 = .ok (.iconst 0, 1) := by decide +kernel
theorem dX5_digest_71 : decode cX5_digest 71 = .ok (.istore 4, 2) := by decide +kernel
theorem dX5_digest_73 : decode cX5_digest 73 = .ok (.iload 4, 2) := by decide +kernel
theorem dX5_digest_75 : decode cX5_digest 75 = .ok (.iconst 5, 1) := by decide +kernel
theorem dX5_digest_76 : decode cX5_digest 76 = .ok (.if_icmp .gt 24, 3) := by decide +kernel
theorem dX5_digest_79 : decode cX5_digest 79 = .ok (.ldc2_w 229, 3) := by decide +kernel
theorem dX5_digest_82 : decode cX5_digest 82 = .ok (.lload_n 1, 1) := by decide +kernel
theorem dX5_digest_83 : decode cX5_digest 83 = .ok (.lmul, 1) := by decide +kernel
theorem dX5_digest_84 : decode cX5_digest 84 = .ok (.aload_n 0, 1) := by decide +kernel
theorem dX5_digest_85 : decode cX5_digest 85 = .ok (.iload_n 3, 1) := by decide +kernel
theorem dX5_digest_86 : decode cX5_digest 86 = .ok (.iload 4, 2) := by decide +kernel
theorem dX5_digest_88 : decode cX5_digest 88 = .ok (.invokevirtual 143, 3) := by decide +kernel
theorem dX5_digest_91 : decode cX5_digest 91 = .ok (.i2l, 1) := by decide +kernel
theorem dX5_digest_92 : decode cX5_digest 92 = .ok (.ladd, 1) := by decide +kernel
theorem dX5_digest_93 : decode cX5_digest 93 = .ok (.lstore_n 1, 1) := by decide +kernel
theorem dX5_digest_94 : decode cX5_digest 94 = .ok (.iinc 4 1, 3) := by decide +kernel
theorem dX5_digest_97 : decode cX5_digest 97 = .ok (.goto (-24), 3) := by decide +kernel
theorem dX5_digest_100 : decode cX5_digest 100 = .ok (.iinc 3 1, 3) := by decide +kernel
theorem dX5_digest_103 : decode cX5_digest 103 = .ok (.goto (-41), 3) := by decide +kernel
theorem dX5_digest_106 : decode cX5_digest 106 = .ok (.aload_n 0, 1) := by decide +kernel
theorem dX5_digest_107 : decode cX5_digest 107 = .ok (.getfield 7, 3) := by decide +kernel
theorem dX5_digest_110 : decode cX5_digest 110 = .ok (.iconst 0, 1) := by decide +kernel
theorem dX5_digest_111 : decode cX5_digest 111 = .ok (.iaload, 1) := by decide +kernel
theorem dX5_digest_112 : decode cX5_digest 112 = .ok (.istore_n 3, 1) := by decide +kernel
theorem dX5_digest_113 : decode cX5_digest 113 = .ok (.iload_n 3, 1) := by decide +kernel
theorem dX5_digest_114 : decode cX5_digest 114 = .ok (.aload_n 0, 1) := by decide +kernel
theorem dX5_digest_115 : decode cX5_digest 115 = .ok (.getfield 7, 3) := by decide +kernel
theorem dX5_digest_118 : decode cX5_digest 118 = .ok (.iconst 1, 1) := by decide +kernel
theorem dX5_digest_119 : decode cX5_digest 119 = .ok (.iaload, 1) := by decide +kernel
theorem dX5_digest_120 : decode cX5_digest 120 = .ok (.if_icmp .gt 16, 3) := by decide +kernel
theorem dX5_digest_123 : decode cX5_digest 123 = .ok (.aload_n 0, 1) := by decide +kernel
theorem dX5_digest_124 : decode cX5_digest 124 = .ok (.lload_n 1, 1) := by decide +kernel
theorem dX5_digest_125 : decode cX5_digest 125 = .ok (.iload_n 3, 1) := by decide +kernel
theorem dX5_digest_126 : decode cX5_digest 126 = .ok (.invokevirtual 240, 3) := by decide +kernel
theorem dX5_digest_129 : decode cX5_digest 129 = .ok (.lstore_n 1, 1) := by decide +kernel
theorem dX5_digest_130 : decode cX5_digest 130 = .ok (.iinc 3 1, 3) := by decide +kernel
theorem dX5_digest_133 : decode cX5_digest 133 = .ok (.goto (-20), 3) := by decide +kernel
theorem dX5_digest_136 : decode cX5_digest 136 = .ok (.ldc2_w 229, 3) := by decide +kernel
theorem dX5_digest_139 : decode cX5_digest 139 = .ok (.lload_n 1, 1) := by decide +kernel
theorem dX5_digest_140 : decode cX5_digest 140 = .ok (.lmul, 1) := by decide +kernel
theorem dX5_digest_141 : decode cX5_digest 141 = .ok (.aload_n 0, 1) := by decide +kernel
theorem dX5_digest_142 : decode cX5_digest 142 = .ok (.invokevirtual 243, 3) := by decide +kernel
theorem dX5_digest_145 : decode cX5_digest 145 = .ok (.i2l, 1) := by decide +kernel
theorem dX5_digest_146 : decode cX5_digest 146 = .ok (.ladd, 1) := by decide +kernel
theorem dX5_digest_147 : decode cX5_digest 147 = .ok (.lstore_n 1, 1) := by decide +kernel
theorem dX5_digest_148 : decode cX5_digest 148 = .ok (.ldc2_w 229, 3) := by decide +kernel
theorem dX5_digest_151 : decode cX5_digest 151 = .ok (.lload_n 1, 1) := by decide +kernel
theorem dX5_digest_152 : decode cX5_digest 152 = .ok (.lmul, 1) := by decide +kernel
theorem dX5_digest_153 : decode cX5_digest 153 = .ok (.aload_n 0, 1) := by decide +kernel
theorem dX5_digest_154 : decode cX5_digest 154 = .ok (.iconst 1, 1) := by decide +kernel
theorem dX5_digest_155 : decode cX5_digest 155 = .ok (.iconst 0, 1) := by decide +kernel
theorem dX5_digest_156 : decode cX5_digest 156 = .ok (.invokevirtual 246, 3) := by decide +kernel
theorem dX5_digest_159 : decode cX5_digest 159 = .ok (.i2l, 1) := by decide +kernel
theorem dX5_digest_160 : decode cX5_digest 160 = .ok (.ladd, 1) := by decide +kernel
theorem dX5_digest_161 : decode cX5_digest 161 = .ok (.lreturn, 1) := by decide +kernel
theorem dJ6_bitCount_0f7a4_0 : decode cJ6_bitCount_0f7a4 0 = .ok (.iload_n 0, 1) := by decide +kernel
theorem dJ6_bitCount_0f7a4_1 : decode cJ6_bitCount_0f7a4 1 = .ok (.iload_n 0, 1) := by decide +kernel
theorem dJ6_bitCount_0f7a4_2 : decode cJ6_bitCount_0f7a4 2 = .ok (.iconst 1, 1) := by decide +kernel
theorem dJ6_bitCount_0f7a4_3 : decode cJ6_bitCount_0f7a4 3 = .ok (.iushr, 1) := by decide +kernel
theorem dJ6_bitCount_0f7a4_4 : decode cJ6_bitCount_0f7a4 4 = .ok (.ldc_w 265, 3) := by decide +kernel
theorem dJ6_bitCount_0f7a4_7 : decode cJ6_bitCount_0f7a4 7 = .ok (.iand, 1) := by decide +kernel
theorem dJ6_bitCount_0f7a4_8 : decode cJ6_bitCount_0f7a4 8 = .ok (.isub, 1) := by decide +kernel
theorem dJ6_bitCount_0f7a4_9 : decode cJ6_bitCount_0f7a4 9 = .ok (.istore_n 0, 1) := by decide +kernel
theorem dJ6_bitCount_0f7a4_10 : decode cJ6_bitCount_0f7a4 10 = .ok (.iload_n 0, 1) := by decide +kernel
theorem dJ6_bitCount_0f7a4_11 : decode cJ6_bitCount_0f7a4 11 = .ok (.ldc_w 266, 3) := by decide +kernel
theorem dJ6_bitCount_0f7a4_14 : decode cJ6_bitCount_0f7a4 14 = .ok (.iand, 1) := by decide +kernel
theorem dJ6_bitCount_0f7a4_15 : decode cJ6_bitCount_0f7a4 15 = .ok (.iload_n 0, 1) := by decide +kernel
theorem dJ6_bitCount_0f7a4_16 : decode cJ6_bitCount_0f7a4 16 = .ok (.iconst 2, 1) := by decide +kernel
theorem dJ6_bitCount_0f7a4_17 : decode cJ6_bitCount_0f7a4 17 = .ok (.iushr, 1) := by decide +kernel
theorem dJ6_bitCount_0f7a4_18 : decode cJ6_bitCount_0f7a4 18 = .ok (.ldc_w 266, 3) := by decide +kernel
theorem dJ6_bitCount_0f7a4_21 : decode cJ6_bitCount_0f7a4 21 = .ok (.iand, 1) := by decide +kernel
theorem dJ6_bitCount_0f7a4_22 : decode cJ6_bitCount_0f7a4 22 = .ok (.iadd, 1) := by decide +kernel
theorem dJ6_bitCount_0f7a4_23 : decode cJ6_bitCount_0f7a4 23 = .ok (.istore_n 0, 1) := by decide +kernel
theorem dJ6_bitCount_0f7a4_24 : decode cJ6_bitCount_0f7a4 24 = .ok (.iload_n 0, 1) := by decide +kernel
theorem dJ6_bitCount_0f7a4_25 : decode cJ6_bitCount_0f7a4 25 = .ok (.iload_n 0, 1) := by decide +kernel
theorem dJ6_bitCount_0f7a4_26 : decode cJ6_bitCount_0f7a4 26 = .ok (.iconst 4, 1) := by decide +kernel
theorem dJ6_bitCount_0f7a4_27 : decode cJ6_bitCount_0f7a4 27 = .ok (.iushr, 1) := by decide +kernel
theorem dJ6_bitCount_0f7a4_28 : decode cJ6_bitCount_0f7a4 28 = .ok (.iadd, 1) := by decide +kernel
theorem dJ6_bitCount_0f7a4_29 : decode cJ6_bitCount_0f7a4 29 = .ok (.ldc_w 267, 3) := by decide +kernel
theorem dJ6_bitCount_0f7a4_32 : decode cJ6_bitCount_0f7a4 32 = .ok (.iand, 1) := by decide +kernel
theorem dJ6_bitCount_0f7a4_33 : decode cJ6_bitCount_0f7a4 33 = .ok (.istore_n 0, 1) := by decide +kernel
theorem dJ6_bitCount_0f7a4_34 : decode cJ6_bitCount_0f7a4 34 = .ok (.iload_n 0, 1) := by decide +kernel
theorem dJ6_bitCount_0f7a4_35 : decode cJ6_bitCount_0f7a4 35 = .ok (.iload_n 0, 1) := by decide +kernel
theorem dJ6_bitCount_0f7a4_36 : decode cJ6_bitCount_0f7a4 36 = .ok (.bipush 8, 2) := by decide +kernel
theorem dJ6_bitCount_0f7a4_38 : decode cJ6_bitCount_0f7a4 38 = .ok (.iushr, 1) := by decide +kernel
theorem dJ6_bitCount_0f7a4_39 : decode cJ6_bitCount_0f7a4 39 = .ok (.iadd, 1) := by decide +kernel
theorem dJ6_bitCount_0f7a4_40 : decode cJ6_bitCount_0f7a4 40 = .ok (.istore_n 0, 1) := by decide +kernel
theorem dJ6_bitCount_0f7a4_41 : decode cJ6_bitCount_0f7a4 41 = .ok (.iload_n 0, 1) := by decide +kernel
theorem dJ6_bitCount_0f7a4_42 : decode cJ6_bitCount_0f7a4 42 = .ok (.iload_n 0, 1) := by decide +kernel
theorem dJ6_bitCount_0f7a4_43 : decode cJ6_bitCount_0f7a4 43 = .ok (.bipush 16, 2) := by decide +kernel
theorem dJ6_bitCount_0f7a4_45 : decode cJ6_bitCount_0f7a4 45 = .ok (.iushr, 1) := by decide +kernel
theorem dJ6_bitCount_0f7a4_46 : decode cJ6_bitCount_0f7a4 46 = .ok (.iadd, 1) := by decide +kernel
theorem dJ6_bitCount_0f7a4_47 : decode cJ6_bitCount_0f7a4 47 = .ok (.istore_n 0, 1) := by decide +kernel
theorem dJ6_bitCount_0f7a4_48 : decode cJ6_bitCount_0f7a4 48 = .ok (.iload_n 0, 1) := by decide +kernel
theorem dJ6_bitCount_0f7a4_49 : decode cJ6_bitCount_0f7a4 49 = .ok (.bipush 63, 2) := by decide +kernel
theorem dJ6_bitCount_0f7a4_51 : decode cJ6_bitCount_0f7a4 51 = .ok (.iand, 1) := by decide +kernel
theorem dJ6_bitCount_0f7a4_52 : decode cJ6_bitCount_0f7a4 52 = .ok (.ireturn, 1) := by decide +kernel
theorem dJ9_abs_0f7a4_0 : decode cJ9_abs_0f7a4 0 = .ok (.iload_n 0, 1) := by decide +kernel
theorem dJ9_abs_0f7a4_1 : decode cJ9_abs_0f7a4 1 = .ok (.ifCond .ge 8, 3) := by decide +kernel
theorem dJ9_abs_0f7a4_4 : decode cJ9_abs_0f7a4 4 = .ok (.iload_n 0, 1) := by decide +kernel
theorem dJ9_abs_0f7a4_5 : decode cJ9_abs_0f7a4 5 = .ok (.ineg, 1) := by decide +kernel
theorem dJ9_abs_0f7a4_6 : decode cJ9_abs_0f7a4 6 = .ok (.goto 4, 3) := by decide +kernel
theorem dJ9_abs_0f7a4_9 : decode cJ9_abs_0f7a4 9 = .ok (.iload_n 0, 1) := by decide +kernel
theorem dJ9_abs_0f7a4_10 : decode cJ9_abs_0f7a4 10 = .ok (.ireturn, 1) := by decide +kernel
theorem dJ9_max_7cf53_0 : decode cJ9_max_7cf53 0 = .ok (.iload_n 0, 1) := by decide +kernel
theorem dJ9_max_7cf53_1 : decode cJ9_max_7cf53 1 = .ok (.iload_n 1, 1) := by decide +kernel
theorem dJ9_max_7cf53_2 : decode cJ9_max_7cf53 2 = .ok (.if_icmp .lt 7, 3) := by decide +kernel
theorem dJ9_max_7cf53_5 : decode cJ9_max_7cf53 5 = .ok (.iload_n 0, 1) := by decide +kernel
theorem dJ9_max_7cf53_6 : decode cJ9_max_7cf53 6 = .ok (.goto 4, 3) := by decide +kernel
theorem dJ9_max_7cf53_9 : decode cJ9_max_7cf53 9 = .ok (.iload_n 1, 1) := by decide +kernel
theorem dJ9_max_7cf53_10 : decode cJ9_max_7cf53 10 = .ok (.ireturn, 1) := by decide +kernel
theorem dJ9_min_7cf53_0 : decode cJ9_min_7cf53 0 = .ok (.iload_n 0, 1) := by decide +kernel
theorem dJ9_min_7cf53_1 : decode cJ9_min_7cf53 1 = .ok (.iload_n 1, 1) := by decide +kernel
theorem dJ9_min_7cf53_2 : decode cJ9_min_7cf53 2 = .ok (.if_icmp .gt 7, 3) := by decide +kernel
theorem dJ9_min_7cf53_5 : decode cJ9_min_7cf53 5 = .ok (.iload_n 0, 1) := by decide +kernel
theorem dJ9_min_7cf53_6 : decode cJ9_min_7cf53 6 = .ok (.goto 4, 3) := by decide +kernel
theorem dJ9_min_7cf53_9 : decode cJ9_min_7cf53 9 = .ok (.iload_n 1, 1) := by decide +kernel
theorem dJ9_min_7cf53_10 : decode cJ9_min_7cf53 10 = .ok (.ireturn, 1) := by decide +kernel
theorem dL_law_0 : decode cL_law 0 = .ok (.new 7, 3) := by decide +kernel
theorem dL_law_3 : decode cL_law 3 = .ok (.dup, 1) := by decide +kernel
theorem dL_law_4 : decode cL_law 4 = .ok (.invokespecial 9, 3) := by decide +kernel
theorem dL_law_7 : decode cL_law 7 = .ok (.astore_n 1, 1) := by decide +kernel
theorem dL_law_8 : decode cL_law 8 = .ok (.new 10, 3) := by decide +kernel
theorem dL_law_11 : decode cL_law 11 = .ok (.dup, 1) := by decide +kernel
theorem dL_law_12 : decode cL_law 12 = .ok (.invokespecial 12, 3) := by decide +kernel
theorem dL_law_15 : decode cL_law 15 = .ok (.astore_n 2, 1) := by decide +kernel
theorem dL_law_16 : decode cL_law 16 = .ok (.iconst 0, 1) := by decide +kernel
theorem dL_law_17 : decode cL_law 17 = .ok (.istore_n 3, 1) := by decide +kernel
theorem dL_law_18 : decode cL_law 18 = .ok (.iload_n 3, 1) := by decide +kernel
theorem dL_law_19 : decode cL_law 19 = .ok (.aload_n 0, 1) := by decide +kernel
theorem dL_law_20 : decode cL_law 20 = .ok (.arraylength, 1) := by decide +kernel
theorem dL_law_21 : decode cL_law 21 = .ok (.iconst 5, 1) := by decide +kernel
theorem dL_law_22 : decode cL_law 22 = .ok (.isub, 1) := by decide +kernel
theorem dL_law_23 : decode cL_law 23 = .ok (.if_icmp .gt 806, 3) := by decide +kernel
theorem dL_law_26 : decode cL_law 26 = .ok (.aload_n 0, 1) := by decide +kernel
theorem dL_law_27 : decode cL_law 27 = .ok (.iload_n 3, 1) := by decide +kernel
theorem dL_law_28 : decode cL_law 28 = .ok (.iaload, 1) := by decide +kernel
theorem dL_law_29 : decode cL_law 29 = .ok (.bipush 31, 2) := by decide +kernel
theorem dL_law_31 : decode cL_law 31 = .ok (.iand, 1) := by decide +kernel
theorem dL_law_32 : decode cL_law 32 = .ok (.tableswitch 791 0 23 #[112, 145, 168, 191, 224, 247, 260, 273, 326, 349, 382, 415, 458, 491, 534, 567, 600, 633, 646, 669, 718, 741, 764, 777], 112) := by decide +kernel
theorem dL_law_144 : decode cL_law 144 = .ok (.aload_n 1, 1) := by decide +kernel
theorem dL_law_145 : decode cL_law 145 = .ok (.aload_n 0, 1) := by decide +kernel
theorem dL_law_146 : decode cL_law 146 = .ok (.iload_n 3, 1) := by decide +kernel
theorem dL_law_147 : decode cL_law 147 = .ok (.iconst 1, 1) := by decide +kernel
theorem dL_law_148 : decode cL_law 148 = .ok (.iadd, 1) := by decide +kernel
theorem dL_law_149 : decode cL_law 149 = .ok (.iaload, 1) := by decide +kernel
theorem dL_law_150 : decode cL_law 150 = .ok (.aload_n 0, 1) := by decide +kernel
theorem dL_law_151 : decode cL_law 151 = .ok (.iload_n 3, 1) := by decide +kernel
theorem dL_law_152 : decode cL_law 152 = .ok (.iconst 2, 1) := by decide +kernel
theorem dL_law_153 : decode cL_law 153 = .ok (.iadd, 1) := by decide +kernel
theorem dL_law_154 : decode cL_law 154 = .ok (.iaload, 1) := by decide +kernel
theorem dL_law_155 : decode cL_law 155 = .ok (.invokevirtual 13, 3) := by decide +kernel
theorem dL_law_158 : decode cL_law 158 = .ok (.aload_n 2, 1) := by decide +kernel
theorem dL_law_159 : decode cL_law 159 = .ok (.aload_n 0, 1) := by decide +kernel
theorem dL_law_160 : decode cL_law 160 = .ok (.iload_n 3, 1) := by decide +kernel
theorem dL_law_161 : decode cL_law 161 = .ok (.iconst 1, 1) := by decide +kernel
theorem dL_law_162 : decode cL_law 162 = .ok (.iadd, 1) := by decide +kernel
theorem dL_law_163 : decode cL_law 163 = .ok (.iaload, 1) := by decide +kernel
theorem dL_law_164 : decode cL_law 164 = .ok (.aload_n 0, 1) := by decide +kernel
theorem dL_law_165 : decode cL_law 165 = .ok (.iload_n 3, 1) := by decide +kernel
theorem dL_law_166 : decode cL_law 166 = .ok (.iconst 2, 1) := by decide +kernel
theorem dL_law_167 : decode cL_law 167 = .ok (.iadd, 1) := by decide +kernel
theorem dL_law_168 : decode cL_law 168 = .ok (.iaload, 1) := by decide +kernel
theorem dL_law_169 : decode cL_law 169 = .ok (.invokevirtual 17, 3) := by decide +kernel
theorem dL_law_172 : decode cL_law 172 = .ok (.if_icmp .eq 651, 3) := by decide +kernel
theorem dL_law_175 : decode cL_law 175 = .ok (.iconst 0, 1) := by decide +kernel
theorem dL_law_176 : decode cL_law 176 = .ok (.ireturn, 1) := by decide +kernel
theorem dL_law_177 : decode cL_law 177 = .ok (.aload_n 1, 1) := by decide +kernel
theorem dL_law_178 : decode cL_law 178 = .ok (.aload_n 0, 1) := by decide +kernel
theorem dL_law_179 : decode cL_law 179 = .ok (.iload_n 3, 1) := by decide +kernel
theorem dL_law_180 : decode cL_law 180 = .ok (.iconst 1, 1) := by decide +kernel
theorem dL_law_181 : decode cL_law 181 = .ok (.iadd, 1) := by decide +kernel
theorem dL_law_182 : decode cL_law 182 = .ok (.iaload, 1) := by decide +kernel
theorem dL_law_183 : decode cL_law 183 = .ok (.invokevirtual 18, 3) := by decide +kernel
theorem dL_law_186 : decode cL_law 186 = .ok (.aload_n 2, 1) := by decide +kernel
theorem dL_law_187 : decode cL_law 187 = .ok (.aload_n 0, 1) := by decide +kernel
theorem dL_law_188 : decode cL_law 188 = .ok (.iload_n 3, 1) := by decide +kernel
theorem dL_law_189 : decode cL_law 189 = .ok (.iconst 1, 1) := by decide +kernel
theorem dL_law_190 : decode cL_law 190 = .ok (.iadd, 1) := by decide +kernel
theorem dL_law_191 : decode cL_law 191 = .ok (.iaload, 1) := by decide +kernel
theorem dL_law_192 : decode cL_law 192 = .ok (.invokevirtual 22, 3) := by decide +kernel
theorem dL_law_195 : decode cL_law 195 = .ok (.if_icmp .eq 628, 3) := by decide +kernel
theorem dL_law_198 : decode cL_law 198 = .ok (.iconst 0, 1) := by decide +kernel
theorem dL_law_199 : decode cL_law 199 = .ok (.ireturn, 1) := by decide +kernel
theorem dL_law_200 : decode cL_law 200 = .ok (.aload_n 1, 1) := by decide +kernel
theorem dL_law_201 : decode cL_law 201 = .ok (.aload_n 0, 1) := by decide +kernel
theorem dL_law_202 : decode cL_law 202 = .ok (.iload_n 3, 1) := by decide +kernel
theorem dL_law_203 : decode cL_law 203 = .ok (.iconst 1, 1) := by decide +kernel
theorem dL_law_204 : decode cL_law 204 = .ok (.iadd, 1) := by decide +kernel
theorem dL_law_205 : decode cL_law 205 = .ok (.iaload, 1) := by decide +kernel
theorem dL_law_206 : decode cL_law 206 = .ok (.invokevirtual 23, 3) := by decide +kernel
theorem dL_law_209 : decode cL_law 209 = .ok (.aload_n 2, 1) := by decide +kernel
theorem dL_law_210 : decode cL_law 210 = .ok (.aload_n 0, 1) := by decide +kernel
theorem dL_law_211 : decode cL_law 211 = .ok (.iload_n 3, 1) := by decide +kernel
theorem dL_law_212 : decode cL_law 212 = .ok (.iconst 1, 1) := by decide +kernel
theorem dL_law_213 : decode cL_law 213 = .ok (.iadd, 1) := by decide +kernel
theorem dL_law_214 : decode cL_law 214 = .ok (.iaload, 1) := by decide +kernel
theorem dL_law_215 : decode cL_law 215 = .ok (.invokevirtual 26, 3) := by decide +kernel
theorem dL_law_218 : decode cL_law 218 = .ok (.if_icmp .eq 605, 3) := by decide +kernel
theorem dL_law_221 : decode cL_law 221 = .ok (.iconst 0, 1) := by decide +kernel
theorem dL_law_222 : decode cL_law 222 = .ok (.ireturn, 1) := by decide +kernel
theorem dL_law_223 : decode cL_law 223 = .ok (.aload_n 1, 1) := by decide +kernel
theorem dL_law_224 : decode cL_law 224 = .ok (.aload_n 0, 1) := by decide +kernel
theorem dL_law_225 : decode cL_law 225 = .ok (.iload_n 3, 1) := by decide +kernel
theorem dL_law_226 : decode cL_law 226 = .ok (.iconst 1, 1) := by decide +kernel
theorem dL_law_227 : decode cL_law 227 = .ok (.iadd, 1) := by decide +kernel
theorem dL_law_228 : decode cL_law 228 = .ok (.iaload, 1) := by decide +kernel
theorem dL_law_229 : decode cL_law 229 = .ok (.aload_n 0, 1) := by decide +kernel
theorem dL_law_230 : decode cL_law 230 = .ok (.iload_n 3, 1) := by decide +kernel
theorem dL_law_231 : decode cL_law 231 = .ok (.iconst 2, 1) := by decide +kernel
theorem dL_law_232 : decode cL_law 232 = .ok (.iadd, 1) := by decide +kernel
theorem dL_law_233 : decode cL_law 233 = .ok (.iaload, 1) := by decide +kernel
theorem dL_law_234 : decode cL_law 234 = .ok (.invokevirtual 27, 3) := by decide +kernel
theorem dL_law_237 : decode cL_law 237 = .ok (.aload_n 2, 1) := by decide +kernel
theorem dL_law_238 : decode cL_law 238 = .ok (.aload_n 0, 1) := by decide +kernel
theorem dL_law_239 : decode cL_law 239 = .ok (.iload_n 3, 1) := by decide +kernel
theorem dL_law_240 : decode cL_law 240 = .ok (.iconst 1, 1) := by decide +kernel
theorem dL_law_241 : decode cL_law 241 = .ok (.iadd, 1) := by decide +kernel
theorem dL_law_242 : decode cL_law 242 = .ok (.iaload, 1) := by decide +kernel
theorem dL_law_243 : decode cL_law 243 = .ok (.aload_n 0, 1) := by decide +kernel
theorem dL_law_244 : decode cL_law 244 = .ok (.iload_n 3, 1) := by decide +kernel
theorem dL_law_245 : decode cL_law 245 = .ok (.iconst 2, 1) := by decide +kernel
theorem dL_law_246 : decode cL_law 246 = .ok (.iadd, 1) := by decide +kernel
theorem dL_law_247 : decode cL_law 247 = .ok (.iaload, 1) := by decide +kernel
theorem dL_law_248 : decode cL_law 248 = .ok (.invokevirtual 30, 3) := by decide +kernel
theorem dL_law_251 : decode cL_law 251 = .ok (.if_icmp .eq 572, 3) := by decide +kernel
theorem dL_law_254 : decode cL_law 254 = .ok (.iconst 0, 1) := by decide +kernel
theorem dL_law_255 : decode cL_law 255 = .ok (.ireturn, 1) := by decide +kernel
theorem dL_law_256 : decode cL_law 256 = .ok (.aload_n 1, 1) := by decide +kernel
theorem dL_law_257 : decode cL_law 257 = .ok (.aload_n 0, 1) := by decide +kernel
theorem dL_law_258 : decode cL_law 258 = .ok (.iload_n 3, 1) := by decide +kernel
theorem dL_law_259 : decode cL_law 259 = .ok (.iconst 1, 1) := by decide +kernel
theorem dL_law_260 : decode cL_law 260 = .ok (.iadd, 1) := by decide +kernel
theorem dL_law_261 : decode cL_law 261 = .ok (.iaload, 1) := by decide +kernel
theorem dL_law_262 : decode cL_law 262 = .ok (.invokevirtual 31, 3) := by decide +kernel
theorem dL_law_265 : decode cL_law 265 = .ok (.aload_n 2, 1) := by decide +kernel
theorem dL_law_266 : decode cL_law 266 = .ok (.aload_n 0, 1) := by decide +kernel
theorem dL_law_267 : decode cL_law 267 = .ok (.iload_n 3, 1) := by decide +kernel
theorem dL_law_268 : decode cL_law 268 = .ok (.iconst 1, 1) := by decide +kernel
theorem dL_law_269 : decode cL_law 269 = .ok (.iadd, 1) := by decide +kernel
theorem dL_law_270 : decode cL_law 270 = .ok (.iaload, 1) := by decide +kernel
theorem dL_law_271 : decode cL_law 271 = .ok (.invokevirtual 34, 3) := by decide +kernel
theorem dL_law_274 : decode cL_law 274 = .ok (.if_icmp .eq 549, 3) := by decide +kernel
theorem dL_law_277 : decode cL_law 277 = .ok (.iconst 0, 1) := by decide +kernel
theorem dL_law_278 : decode cL_law 278 = .ok (.ireturn, 1) := by decide +kernel
theorem dL_law_279 : decode cL_law 279 = .ok (.aload_n 1, 1) := by decide +kernel
theorem dL_law_280 : decode cL_law 280 = .ok (.invokevirtual 35, 3) := by decide +kernel
theorem dL_law_283 : decode cL_law 283 = .ok (.aload_n 2, 1) := by decide +kernel
theorem dL_law_284 : decode cL_law 284 = .ok (.invokevirtual 39, 3) := by decide +kernel
theorem dL_law_287 : decode cL_law 287 = .ok (.if_icmp .eq 536, 3) := by decide +kernel
theorem dL_law_290 : decode cL_law 290 = .ok (.iconst 0, 1) := by decide +kernel
theorem dL_law_291 : decode cL_law 291 = .ok (.ireturn, 1) := by decide +kernel
theorem dL_law_292 : decode cL_law 292 = .ok (.aload_n 1, 1) := by decide +kernel
theorem dL_law_293 : decode cL_law 293 = .ok (.invokevirtual 40, 3) := by decide +kernel
theorem dL_law_296 : decode cL_law 296 = .ok (.aload_n 2, 1) := by decide +kernel
theorem dL_law_297 : decode cL_law 297 = .ok (.invokevirtual 43, 3) := by decide +kernel
theorem dL_law_300 : decode cL_law 300 = .ok (.if_icmp .eq 523, 3) := by decide +kernel
theorem dL_law_303 : decode cL_law 303 = .ok (.iconst 0, 1) := by decide +kernel
theorem dL_law_304 : decode cL_law 304 = .ok (.ireturn, 1) := by decide +kernel
theorem dL_law_305 : decode cL_law 305 = .ok (.aload_n 1, 1) := by decide +kernel
theorem dL_law_306 : decode cL_law 306 = .ok (.aload_n 0, 1) := by decide +kernel
theorem dL_law_307 : decode cL_law 307 = .ok (.iload_n 3, 1) := by decide +kernel
theorem dL_law_308 : decode cL_law 308 = .ok (.iconst 1, 1) := by decide +kernel
theorem dL_law_309 : decode cL_law 309 = .ok (.iadd, 1) := by decide +kernel
theorem dL_law_310 : decode cL_law 310 = .ok (.iaload, 1) := by decide +kernel
theorem dL_law_311 : decode cL_law 311 = .ok (.aload_n 0, 1) := by decide +kernel
theorem dL_law_312 : decode cL_law 312 = .ok (.iload_n 3, 1) := by decide +kernel
theorem dL_law_313 : decode cL_law 313 = .ok (.iconst 2, 1) := by decide +kernel
theorem dL_law_314 : decode cL_law 314 = .ok (.iadd, 1) := by decide +kernel
theorem dL_law_315 : decode cL_law 315 = .ok (.iaload, 1) := by decide +kernel
theorem dL_law_316 : decode cL_law 316 = .ok (.aload_n 0, 1) := by decide +kernel
theorem dL_law_317 : decode cL_law 317 = .ok (.iload_n 3, 1) := by decide +kernel
theorem dL_law_318 : decode cL_law 318 = .ok (.iconst 3, 1) := by decide +kernel
theorem dL_law_319 : decode cL_law 319 = .ok (.iadd, 1) := by decide +kernel
theorem dL_law_320 : decode cL_law 320 = .ok (.iaload, 1) := by decide +kernel
theorem dL_law_321 : decode cL_law 321 = .ok (.aload_n 0, 1) := by decide +kernel
theorem dL_law_322 : decode cL_law 322 = .ok (.iload_n 3, 1) := by decide +kernel
theorem dL_law_323 : decode cL_law 323 = .ok (.iconst 4, 1) := by decide +kernel
theorem dL_law_324 : decode cL_law 324 = .ok (.iadd, 1) := by decide +kernel
theorem dL_law_325 : decode cL_law 325 = .ok (.iaload, 1) := by decide +kernel
theorem dL_law_326 : decode cL_law 326 = .ok (.invokevirtual 44, 3) := by decide +kernel
theorem dL_law_329 : decode cL_law 329 = .ok (.aload_n 2, 1) := by decide +kernel
theorem dL_law_330 : decode cL_law 330 = .ok (.aload_n 0, 1) := by decide +kernel
theorem dL_law_331 : decode cL_law 331 = .ok (.iload_n 3, 1) := by decide +kernel
theorem dL_law_332 : decode cL_law 332 = .ok (.iconst 1, 1) := by decide +kernel
theorem dL_law_333 : decode cL_law 333 = .ok (.iadd, 1) := by decide +kernel
theorem dL_law_334 : decode cL_law 334 = .ok (.iaload, 1) := by decide +kernel
theorem dL_law_335 : decode cL_law 335 = .ok (.aload_n 0, 1) := by decide +kernel
theorem dL_law_336 : decode cL_law 336 = .ok (.iload_n 3, 1) := by decide +kernel
theorem dL_law_337 : decode cL_law 337 = .ok (.iconst 2, 1) := by decide +kernel
theorem dL_law_338 : decode cL_law 338 = .ok (.iadd, 1) := by decide +kernel
theorem dL_law_339 : decode cL_law 339 = .ok (.iaload, 1) := by decide +kernel
theorem dL_law_340 : decode cL_law 340 = .ok (.aload_n 0, 1) := by decide +kernel
theorem dL_law_341 : decode cL_law 341 = .ok (.iload_n 3, 1) := by decide +kernel
theorem dL_law_342 : decode cL_law 342 = .ok (.iconst 3, 1) := by decide +kernel
theorem dL_law_343 : decode cL_law 343 = .ok (.iadd, 1) := by decide +kernel
theorem dL_law_344 : decode cL_law 344 = .ok (.iaload, 1) := by decide +kernel
theorem dL_law_345 : decode cL_law 345 = .ok (.aload_n 0, 1) := by decide +kernel
theorem dL_law_346 : decode cL_law 346 = .ok (.iload_n 3, 1) := by decide +kernel
theorem dL_law_347 : decode cL_law 347 = .ok (.iconst 4, 1) := by decide +kernel
theorem dL_law_348 : decode cL_law 348 = .ok (.iadd, 1) := by decide +kernel
theorem dL_law_349 : decode cL_law 349 = .ok (.iaload, 1) := by decide +kernel
theorem dL_law_350 : decode cL_law 350 = .ok (.invokevirtual 48, 3) := by decide +kernel
theorem dL_law_353 : decode cL_law 353 = .ok (.if_icmp .eq 470, 3) := by decide +kernel
theorem dL_law_356 : decode cL_law 356 = .ok (.iconst 0, 1) := by decide +kernel
theorem dL_law_357 : decode cL_law 357 = .ok (.ireturn, 1) := by decide +kernel
theorem dL_law_358 : decode cL_law 358 = .ok (.aload_n 1, 1) := by decide +kernel
theorem dL_law_359 : decode cL_law 359 = .ok (.aload_n 0, 1) := by decide +kernel
theorem dL_law_360 : decode cL_law 360 = .ok (.iload_n 3, 1) := by decide +kernel
theorem dL_law_361 : decode cL_law 361 = .ok (.iconst 1, 1) := by decide +kernel
theorem dL_law_362 : decode cL_law 362 = .ok (.iadd, 1) := by decide +kernel
theorem dL_law_363 : decode cL_law 363 = .ok (.iaload, 1) := by decide +kernel
theorem dL_law_364 : decode cL_law 364 = .ok (.invokevirtual 49, 3) := by decide +kernel
theorem dL_law_367 : decode cL_law 367 = .ok (.aload_n 2, 1) := by decide +kernel
theorem dL_law_368 : decode cL_law 368 = .ok (.aload_n 0, 1) := by decide +kernel
theorem dL_law_369 : decode cL_law 369 = .ok (.iload_n 3, 1) := by decide +kernel
theorem dL_law_370 : decode cL_law 370 = .ok (.iconst 1, 1) := by decide +kernel
theorem dL_law_371 : decode cL_law 371 = .ok (.iadd, 1) := by decide +kernel
theorem dL_law_372 : decode cL_law 372 = .ok (.iaload, 1) := by decide +kernel
theorem dL_law_373 : decode cL_law 373 = .ok (.invokevirtual 52, 3) := by decide +kernel
theorem dL_law_376 : decode cL_law 376 = .ok (.if_icmp .eq 447, 3) := by decide +kernel
theorem dL_law_379 : decode cL_law 379 = .ok (.iconst 0, 1) := by decide +kernel
theorem dL_law_380 : decode cL_law 380 = .ok (.ireturn, 1) := by decide +kernel
theorem dL_law_381 : decode cL_law 381 = .ok (.aload_n 1, 1) := by decide +kernel
theorem dL_law_382 : decode cL_law 382 = .ok (.aload_n 0, 1) := by decide +kernel
theorem dL_law_383 : decode cL_law 383 = .ok (.iload_n 3, 1) := by decide +kernel
theorem dL_law_384 : decode cL_law 384 = .ok (.iconst 1, 1) := by decide +kernel
theorem dL_law_385 : decode cL_law 385 = .ok (.iadd, 1) := by decide +kernel
theorem dL_law_386 : decode cL_law 386 = .ok (.iaload, 1) := by decide +kernel
theorem dL_law_387 : decode cL_law 387 = .ok (.aload_n 0, 1) := by decide +kernel
theorem dL_law_388 : decode cL_law 388 = .ok (.iload_n 3, 1) := by decide +kernel
theorem dL_law_389 : decode cL_law 389 = .ok (.iconst 2, 1) := by decide +kernel
theorem dL_law_390 : decode cL_law 390 = .ok (.iadd, 1) := by decide +kernel
theorem dL_law_391 : decode cL_law 391 = .ok (.iaload, 1) := by decide +kernel
theorem dL_law_392 : decode cL_law 392 = .ok (.invokevirtual 53, 3) := by decide +kernel
theorem dL_law_395 : decode cL_law 395 = .ok (.aload_n 2, 1) := by decide +kernel
theorem dL_law_396 : decode cL_law 396 = .ok (.aload_n 0, 1) := by decide +kernel
theorem dL_law_397 : decode cL_law 397 = .ok (.iload_n 3, 1) := by decide +kernel
theorem dL_law_398 : decode cL_law 398 = .ok (.iconst 1, 1) := by decide +kernel
theorem dL_law_399 : decode cL_law 399 = .ok (.iadd, 1) := by decide +kernel
theorem dL_law_400 : decode cL_law 400 = .ok (.iaload, 1) := by decide +kernel
theorem dL_law_401 : decode cL_law 401 = .ok (.aload_n 0, 1) := by decide +kernel
theorem dL_law_402 : decode cL_law 402 = .ok (.iload_n 3, 1) := by decide +kernel
theorem dL_law_403 : decode cL_law 403 = .ok (.iconst 2, 1) := by decide +kernel
theorem dL_law_404 : decode cL_law 404 = .ok (.iadd, 1) := by decide +kernel
theorem dL_law_405 : decode cL_law 405 = .ok (.iaload, 1) := by decide +kernel
theorem dL_law_406 : decode cL_law 406 = .ok (.invokevirtual 56, 3) := by decide +kernel
theorem dL_law_409 : decode cL_law 409 = .ok (.if_icmp .eq 414, 3) := by decide +kernel
theorem dL_law_412 : decode cL_law 412 = .ok (.iconst 0, 1) := by decide +kernel
theorem dL_law_413 : decode cL_law 413 = .ok (.ireturn, 1) := by decide +kernel
theorem dL_law_414 : decode cL_law 414 = .ok (.aload_n 1, 1) := by decide +kernel
theorem dL_law_415 : decode cL_law 415 = .ok (.aload_n 0, 1) := by decide +kernel
theorem dL_law_416 : decode cL_law 416 = .ok (.iload_n 3, 1) := by decide +kernel
theorem dL_law_417 : decode cL_law 417 = .ok (.iconst 1, 1) := by decide +kernel
theorem dL_law_418 : decode cL_law 418 = .ok (.iadd, 1) := by decide +kernel
theorem dL_law_419 : decode cL_law 419 = .ok (.iaload, 1) := by decide +kernel
theorem dL_law_420 : decode cL_law 420 = .ok (.aload_n 0, 1) := by decide +kernel
theorem dL_law_421 : decode cL_law 421 = .ok (.iload_n 3, 1) := by decide +kernel
theorem dL_law_422 : decode cL_law 422 = .ok (.iconst 2, 1) := by decide +kernel
theorem dL_law_423 : decode cL_law 423 = .ok (.iadd, 1) := by decide +kernel
theorem dL_law_424 : decode cL_law 424 = .ok (.iaload, 1) := by decide +kernel
theorem dL_law_425 : decode cL_law 425 = .ok (.invokevirtual 57, 3) := by decide +kernel
theorem dL_law_428 : decode cL_law 428 = .ok (.aload_n 2, 1) := by decide +kernel
theorem dL_law_429 : decode cL_law 429 = .ok (.aload_n 0, 1) := by decide +kernel
theorem dL_law_430 : decode cL_law 430 = .ok (.iload_n 3, 1) := by decide +kernel
theorem dL_law_431 : decode cL_law 431 = .ok (.iconst 1, 1) := by decide +kernel
theorem dL_law_432 : decode cL_law 432 = .ok (.iadd, 1) := by decide +kernel
theorem dL_law_433 : decode cL_law 433 = .ok (.iaload, 1) := by decide +kernel
theorem dL_law_434 : decode cL_law 434 = .ok (.aload_n 0, 1) := by decide +kernel
theorem dL_law_435 : decode cL_law 435 = .ok (.iload_n 3, 1) := by decide +kernel
theorem dL_law_436 : decode cL_law 436 = .ok (.iconst 2, 1) := by decide +kernel
theorem dL_law_437 : decode cL_law 437 = .ok (.iadd, 1) := by decide +kernel
theorem dL_law_438 : decode cL_law 438 = .ok (.iaload, 1) := by decide +kernel
theorem dL_law_439 : decode cL_law 439 = .ok (.invokevirtual 60, 3) := by decide +kernel
theorem dL_law_442 : decode cL_law 442 = .ok (.if_icmp .eq 381, 3) := by decide +kernel
theorem dL_law_445 : decode cL_law 445 = .ok (.iconst 0, 1) := by decide +kernel
theorem dL_law_446 : decode cL_law 446 = .ok (.ireturn, 1) := by decide +kernel
theorem dL_law_447 : decode cL_law 447 = .ok (.aload_n 1, 1) := by decide +kernel
theorem dL_law_448 : decode cL_law 448 = .ok (.aload_n 0, 1) := by decide +kernel
theorem dL_law_449 : decode cL_law 449 = .ok (.iload_n 3, 1) := by decide +kernel
theorem dL_law_450 : decode cL_law 450 = .ok (.iconst 1, 1) := by decide +kernel
theorem dL_law_451 : decode cL_law 451 = .ok (.iadd, 1) := by decide +kernel
theorem dL_law_452 : decode cL_law 452 = .ok (.iaload, 1) := by decide +kernel
theorem dL_law_453 : decode cL_law 453 = .ok (.aload_n 0, 1) := by decide +kernel
theorem dL_law_454 : decode cL_law 454 = .ok (.iload_n 3, 1) := by decide +kernel
theorem dL_law_455 : decode cL_law 455 = .ok (.iconst 2, 1) := by decide +kernel
theorem dL_law_456 : decode cL_law 456 = .ok (.iadd, 1) := by decide +kernel
theorem dL_law_457 : decode cL_law 457 = .ok (.iaload, 1) := by decide +kernel
theorem dL_law_458 : decode cL_law 458 = .ok (.aload_n 0, 1) := by decide +kernel
theorem dL_law_459 : decode cL_law 459 = .ok (.iload_n 3, 1) := by decide +kernel
theorem dL_law_460 : decode cL_law 460 = .ok (.iconst 3, 1) := by decide +kernel
theorem dL_law_461 : decode cL_law 461 = .ok (.iadd, 1) := by decide +kernel
theorem dL_law_462 : decode cL_law 462 = .ok (.iaload, 1) := by decide +kernel
theorem dL_law_463 : decode cL_law 463 = .ok (.invokevirtual 61, 3) := by decide +kernel
theorem dL_law_466 : decode cL_law 466 = .ok (.aload_n 2, 1) := by decide +kernel
theorem dL_law_467 : decode cL_law 467 = .ok (.aload_n 0, 1) := by decide +kernel
theorem dL_law_468 : decode cL_law 468 = .ok (.iload_n 3, 1) := by decide +kernel
theorem dL_law_469 : decode cL_law 469 = .ok (.iconst 1, 1) := by decide +kernel
theorem dL_law_470 : decode cL_law 470 = .ok (.iadd, 1) := by decide +kernel
theorem dL_law_471 : decode cL_law 471 = .ok (.iaload, 1) := by decide +kernel
theorem dL_law_472 : decode cL_law 472 = .ok (.aload_n 0, 1) := by decide +kernel
theorem dL_law_473 : decode cL_law 473 = .ok (.iload_n 3, 1) := by decide +kernel
theorem dL_law_474 : decode cL_law 474 = .ok (.iconst 2, 1) := by decide +kernel
theorem dL_law_475 : decode cL_law 475 = .ok (.iadd, 1) := by decide +kernel
theorem dL_law_476 : decode cL_law 476 = .ok (.iaload, 1) := by decide +kernel
theorem dL_law_477 : decode cL_law 477 = .ok (.aload_n 0, 1) := by decide +kernel
theorem dL_law_478 : decode cL_law 478 = .ok (.iload_n 3, 1) := by decide +kernel
theorem dL_law_479 : decode cL_law 479 = .ok (.iconst 3, 1) := by decide +kernel
theorem dL_law_480 : decode cL_law 480 = .ok (.iadd, 1) := by decide +kernel
theorem dL_law_481 : decode cL_law 481 = .ok (.iaload, 1) := by decide +kernel
theorem dL_law_482 : decode cL_law 482 = .ok (.invokevirtual 65, 3) := by decide +kernel
theorem dL_law_485 : decode cL_law 485 = .ok (.if_icmp .eq 338, 3) := by decide +kernel
theorem dL_law_488 : decode cL_law 488 = .ok (.iconst 0, 1) := by decide +kernel
theorem dL_law_489 : decode cL_law 489 = .ok (.ireturn, 1) := by decide +kernel
theorem dL_law_490 : decode cL_law 490 = .ok (.aload_n 1, 1) := by decide +kernel
theorem dL_law_491 : decode cL_law 491 = .ok (.aload_n 0, 1) := by decide +kernel
theorem dL_law_492 : decode cL_law 492 = .ok (.iload_n 3, 1) := by decide +kernel
theorem dL_law_493 : decode cL_law 493 = .ok (.iconst 1, 1) := by decide +kernel
theorem dL_law_494 : decode cL_law 494 = .ok (.iadd, 1) := by decide +kernel
theorem dL_law_495 : decode cL_law 495 = .ok (.iaload, 1) := by decide +kernel
theorem dL_law_496 : decode cL_law 496 = .ok (.aload_n 0, 1) := by decide +kernel
theorem dL_law_497 : decode cL_law 497 = .ok (.iload_n 3, 1) := by decide +kernel
theorem dL_law_498 : decode cL_law 498 = .ok (.iconst 2, 1) := by decide +kernel
theorem dL_law_499 : decode cL_law 499 = .ok (.iadd, 1) := by decide +kernel
theorem dL_law_500 : decode cL_law 500 = .ok (.iaload, 1) := by decide +kernel
theorem dL_law_501 : decode cL_law 501 = .ok (.invokevirtual 66, 3) := by decide +kernel
theorem dL_law_504 : decode cL_law 504 = .ok (.aload_n 2, 1) := by decide +kernel
theorem dL_law_505 : decode cL_law 505 = .ok (.aload_n 0, 1) := by decide +kernel
theorem dL_law_506 : decode cL_law 506 = .ok (.iload_n 3, 1) := by decide +kernel
theorem dL_law_507 : decode cL_law 507 = .ok (.iconst 1, 1) := by decide +kernel
theorem dL_law_508 : decode cL_law 508 = .ok (.iadd, 1) := by decide +kernel
theorem dL_law_509 : decode cL_law 509 = .ok (.iaload, 1) := by decide +kernel
theorem dL_law_510 : decode cL_law 510 = .ok (.aload_n 0, 1) := by decide +kernel
theorem dL_law_511 : decode cL_law 511 = .ok (.iload_n 3, 1) := by decide +kernel
theorem dL_law_512 : decode cL_law 512 = .ok (.iconst 2, 1) := by decide +kernel
theorem dL_law_513 : decode cL_law 513 = .ok (.iadd, 1) := by decide +kernel
theorem dL_law_514 : decode cL_law 514 = .ok (.iaload, 1) := by decide +kernel
theorem dL_law_515 : decode cL_law 515 = .ok (.invokevirtual 69, 3) := by decide +kernel
theorem dL_law_518 : decode cL_law 518 = .ok (.if_icmp .eq 305, 3) := by decide +kernel
theorem dL_law_521 : decode cL_law 521 = .ok (.iconst 0, 1) := by decide +kernel
theorem dL_law_522 : decode cL_law 522 = .ok (.ireturn, 1) := by decide +kernel
theorem dL_law_523 : decode cL_law 523 = .ok (.aload_n 1, 1) := by decide +kernel
theorem dL_law_524 : decode cL_law 524 = .ok (.aload_n 0, 1) := by decide +kernel
theorem dL_law_525 : decode cL_law 525 = .ok (.iload_n 3, 1) := by decide +kernel
theorem dL_law_526 : decode cL_law 526 = .ok (.iconst 1, 1) := by decide +kernel
theorem dL_law_527 : decode cL_law 527 = .ok (.iadd, 1) := by decide +kernel
theorem dL_law_528 : decode cL_law 528 = .ok (.iaload, 1) := by decide +kernel
theorem dL_law_529 : decode cL_law 529 = .ok (.aload_n 0, 1) := by decide +kernel
theorem dL_law_530 : decode cL_law 530 = .ok (.iload_n 3, 1) := by decide +kernel
theorem dL_law_531 : decode cL_law 531 = .ok (.iconst 2, 1) := by decide +kernel
theorem dL_law_532 : decode cL_law 532 = .ok (.iadd, 1) := by decide +kernel
theorem dL_law_533 : decode cL_law 533 = .ok (.iaload, 1) := by decide +kernel
theorem dL_law_534 : decode cL_law 534 = .ok (.aload_n 0, 1) := by decide +kernel
theorem dL_law_535 : decode cL_law 535 = .ok (.iload_n 3, 1) := by decide +kernel
theorem dL_law_536 : decode cL_law 536 = .ok (.iconst 3, 1) := by decide +kernel
theorem dL_law_537 : decode cL_law 537 = .ok (.iadd, 1) := by decide +kernel
theorem dL_law_538 : decode cL_law 538 = .ok (.iaload, 1) := by decide +kernel
theorem dL_law_539 : decode cL_law 539 = .ok (.invokevirtual 70, 3) := by decide +kernel
theorem dL_law_542 : decode cL_law 542 = .ok (.aload_n 2, 1) := by decide +kernel
theorem dL_law_543 : decode cL_law 543 = .ok (.aload_n 0, 1) := by decide +kernel
theorem dL_law_544 : decode cL_law 544 = .ok (.iload_n 3, 1) := by decide +kernel
theorem dL_law_545 : decode cL_law 545 = .ok (.iconst 1, 1) := by decide +kernel
theorem dL_law_546 : decode cL_law 546 = .ok (.iadd, 1) := by decide +kernel
theorem dL_law_547 : decode cL_law 547 = .ok (.iaload, 1) := by decide +kernel
theorem dL_law_548 : decode cL_law 548 = .ok (.aload_n 0, 1) := by decide +kernel
theorem dL_law_549 : decode cL_law 549 = .ok (.iload_n 3, 1) := by decide +kernel
theorem dL_law_550 : decode cL_law 550 = .ok (.iconst 2, 1) := by decide +kernel
theorem dL_law_551 : decode cL_law 551 = .ok (.iadd, 1) := by decide +kernel
theorem dL_law_552 : decode cL_law 552 = .ok (.iaload, 1) := by decide +kernel
theorem dL_law_553 : decode cL_law 553 = .ok (.aload_n 0, 1) := by decide +kernel
theorem dL_law_554 : decode cL_law 554 = .ok (.iload_n 3, 1) := by decide +kernel
theorem dL_law_555 : decode cL_law 555 = .ok (.iconst 3, 1) := by decide +kernel
theorem dL_law_556 : decode cL_law 556 = .ok (.iadd, 1) := by decide +kernel
theorem dL_law_557 : decode cL_law 557 = .ok (.iaload, 1) := by decide +kernel
theorem dL_law_558 : decode cL_law 558 = .ok (.invokevirtual 73, 3) := by decide +kernel
theorem dL_law_561 : decode cL_law 561 = .ok (.if_icmp .eq 262, 3) := by decide +kernel
theorem dL_law_564 : decode cL_law 564 = .ok (.iconst 0, 1) := by decide +kernel
theorem dL_law_565 : decode cL_law 565 = .ok (.ireturn, 1) := by decide +kernel
theorem dL_law_566 : decode cL_law 566 = .ok (.aload_n 1, 1) := by decide +kernel
theorem dL_law_567 : decode cL_law 567 = .ok (.aload_n 0, 1) := by decide +kernel
theorem dL_law_568 : decode cL_law 568 = .ok (.iload_n 3, 1) := by decide +kernel
theorem dL_law_569 : decode cL_law 569 = .ok (.iconst 1, 1) := by decide +kernel
theorem dL_law_570 : decode cL_law 570 = .ok (.iadd, 1) := by decide +kernel
theorem dL_law_571 : decode cL_law 571 = .ok (.iaload, 1) := by decide +kernel
theorem dL_law_572 : decode cL_law 572 = .ok (.aload_n 0, 1) := by decide +kernel
theorem dL_law_573 : decode cL_law 573 = .ok (.iload_n 3, 1) := by decide +kernel
theorem dL_law_574 : decode cL_law 574 = .ok (.iconst 2, 1) := by decide +kernel
theorem dL_law_575 : decode cL_law 575 = .ok (.iadd, 1) := by decide +kernel
theorem dL_law_576 : decode cL_law 576 = .ok (.iaload, 1) := by decide +kernel
theorem dL_law_577 : decode cL_law 577 = .ok (.invokevirtual 74, 3) := by decide +kernel
theorem dL_law_580 : decode cL_law 580 = .ok (.aload_n 2, 1) := by decide +kernel
theorem dL_law_581 : decode cL_law 581 = .ok (.aload_n 0, 1) := by decide +kernel
theorem dL_law_582 : decode cL_law 582 = .ok (.iload_n 3, 1) := by decide +kernel
theorem dL_law_583 : decode cL_law 583 = .ok (.iconst 1, 1) := by decide +kernel
theorem dL_law_584 : decode cL_law 584 = .ok (.iadd, 1) := by decide +kernel
theorem dL_law_585 : decode cL_law 585 = .ok (.iaload, 1) := by decide +kernel
theorem dL_law_586 : decode cL_law 586 = .ok (.aload_n 0, 1) := by decide +kernel
theorem dL_law_587 : decode cL_law 587 = .ok (.iload_n 3, 1) := by decide +kernel
theorem dL_law_588 : decode cL_law 588 = .ok (.iconst 2, 1) := by decide +kernel
theorem dL_law_589 : decode cL_law 589 = .ok (.iadd, 1) := by decide +kernel
theorem dL_law_590 : decode cL_law 590 = .ok (.iaload, 1) := by decide +kernel
theorem dL_law_591 : decode cL_law 591 = .ok (.invokevirtual 77, 3) := by decide +kernel
theorem dL_law_594 : decode cL_law 594 = .ok (.if_icmp .eq 229, 3) := by decide +kernel
theorem dL_law_597 : decode cL_law 597 = .ok (.iconst 0, 1) := by decide +kernel
theorem dL_law_598 : decode cL_law 598 = .ok (.ireturn, 1) := by decide +kernel
theorem dL_law_599 : decode cL_law 599 = .ok (.aload_n 1, 1) := by decide +kernel
theorem dL_law_600 : decode cL_law 600 = .ok (.aload_n 0, 1) := by decide +kernel
theorem dL_law_601 : decode cL_law 601 = .ok (.iload_n 3, 1) := by decide +kernel
theorem dL_law_602 : decode cL_law 602 = .ok (.iconst 1, 1) := by decide +kernel
theorem dL_law_603 : decode cL_law 603 = .ok (.iadd, 1) := by decide +kernel
theorem dL_law_604 : decode cL_law 604 = .ok (.iaload, 1) := by decide +kernel
theorem dL_law_605 : decode cL_law 605 = .ok (.aload_n 0, 1) := by decide +kernel
theorem dL_law_606 : decode cL_law 606 = .ok (.iload_n 3, 1) := by decide +kernel
theorem dL_law_607 : decode cL_law 607 = .ok (.iconst 2, 1) := by decide +kernel
theorem dL_law_608 : decode cL_law 608 = .ok (.iadd, 1) := by decide +kernel
theorem dL_law_609 : decode cL_law 609 = .ok (.iaload, 1) := by decide +kernel
theorem dL_law_610 : decode cL_law 610 = .ok (.invokevirtual 78, 3) := by decide +kernel
theorem dL_law_613 : decode cL_law 613 = .ok (.aload_n 2, 1) := by decide +kernel
theorem dL_law_614 : decode cL_law 614 = .ok (.aload_n 0, 1) := by decide +kernel
theorem dL_law_615 : decode cL_law 615 = .ok (.iload_n 3, 1) := by decide +kernel
theorem dL_law_616 : decode cL_law 616 = .ok (.iconst 1, 1) := by decide +kernel
theorem dL_law_617 : decode cL_law 617 = .ok (.iadd, 1) := by decide +kernel
theorem dL_law_618 : decode cL_law 618 = .ok (.iaload, 1) := by decide +kernel
theorem dL_law_619 : decode cL_law 619 = .ok (.aload_n 0, 1) := by decide +kernel
theorem dL_law_620 : decode cL_law 620 = .ok (.iload_n 3, 1) := by decide +kernel
theorem dL_law_621 : decode cL_law 621 = .ok (.iconst 2, 1) := by decide +kernel
theorem dL_law_622 : decode cL_law 622 = .ok (.iadd, 1) := by decide +kernel
theorem dL_law_623 : decode cL_law 623 = .ok (.iaload, 1) := by decide +kernel
theorem dL_law_624 : decode cL_law 624 = .ok (.invokevirtual 81, 3) := by decide +kernel
theorem dL_law_627 : decode cL_law 627 = .ok (.if_icmp .eq 196, 3) := by decide +kernel
theorem dL_law_630 : decode cL_law 630 = .ok (.iconst 0, 1) := by decide +kernel
theorem dL_law_631 : decode cL_law 631 = .ok (.ireturn, 1) := by decide +kernel
theorem dL_law_632 : decode cL_law 632 = .ok (.aload_n 1, 1) := by decide +kernel
theorem dL_law_633 : decode cL_law 633 = .ok (.aload_n 0, 1) := by decide +kernel
theorem dL_law_634 : decode cL_law 634 = .ok (.iload_n 3, 1) := by decide +kernel
theorem dL_law_635 : decode cL_law 635 = .ok (.iconst 1, 1) := by decide +kernel
theorem dL_law_636 : decode cL_law 636 = .ok (.iadd, 1) := by decide +kernel
theorem dL_law_637 : decode cL_law 637 = .ok (.iaload, 1) := by decide +kernel
theorem dL_law_638 : decode cL_law 638 = .ok (.aload_n 0, 1) := by decide +kernel
theorem dL_law_639 : decode cL_law 639 = .ok (.iload_n 3, 1) := by decide +kernel
theorem dL_law_640 : decode cL_law 640 = .ok (.iconst 2, 1) := by decide +kernel
theorem dL_law_641 : decode cL_law 641 = .ok (.iadd, 1) := by decide +kernel
theorem dL_law_642 : decode cL_law 642 = .ok (.iaload, 1) := by decide +kernel
theorem dL_law_643 : decode cL_law 643 = .ok (.invokevirtual 82, 3) := by decide +kernel
theorem dL_law_646 : decode cL_law 646 = .ok (.aload_n 2, 1) := by decide +kernel
theorem dL_law_647 : decode cL_law 647 = .ok (.aload_n 0, 1) := by decide +kernel
theorem dL_law_648 : decode cL_law 648 = .ok (.iload_n 3, 1) := by decide +kernel
theorem dL_law_649 : decode cL_law 649 = .ok (.iconst 1, 1) := by decide +kernel
theorem dL_law_650 : decode cL_law 650 = .ok (.iadd, 1) := by decide +kernel
theorem dL_law_651 : decode cL_law 651 = .ok (.iaload, 1) := by decide +kernel
theorem dL_law_652 : decode cL_law 652 = .ok (.aload_n 0, 1) := by decide +kernel
theorem dL_law_653 : decode cL_law 653 = .ok (.iload_n 3, 1) := by decide +kernel
theorem dL_law_654 : decode cL_law 654 = .ok (.iconst 2, 1) := by decide +kernel
theorem dL_law_655 : decode cL_law 655 = .ok (.iadd, 1) := by decide +kernel
theorem dL_law_656 : decode cL_law 656 = .ok (.iaload, 1) := by decide +kernel
theorem dL_law_657 : decode cL_law 657 = .ok (.invokevirtual 85, 3) := by decide +kernel
theorem dL_law_660 : decode cL_law 660 = .ok (.if_icmp .eq 163, 3) := by decide +kernel
theorem dL_law_663 : decode cL_law 663 = .ok (.iconst 0, 1) := by decide +kernel
theorem dL_law_664 : decode cL_law 664 = .ok (.ireturn, 1) := by decide +kernel
theorem dL_law_665 : decode cL_law 665 = .ok (.aload_n 1, 1) := by decide +kernel
theorem dL_law_666 : decode cL_law 666 = .ok (.invokevirtual 86, 3) := by decide +kernel
theorem dL_law_669 : decode cL_law 669 = .ok (.aload_n 2, 1) := by decide +kernel
theorem dL_law_670 : decode cL_law 670 = .ok (.invokevirtual 89, 3) := by decide +kernel
theorem dL_law_673 : decode cL_law 673 = .ok (.if_icmp .eq 150, 3) := by decide +kernel
theorem dL_law_676 : decode cL_law 676 = .ok (.iconst 0, 1) := by decide +kernel
theorem dL_law_677 : decode cL_law 677 = .ok (.ireturn, 1) := by decide +kernel
theorem dL_law_678 : decode cL_law 678 = .ok (.aload_n 1, 1) := by decide +kernel
theorem dL_law_679 : decode cL_law 679 = .ok (.aload_n 0, 1) := by decide +kernel
theorem dL_law_680 : decode cL_law 680 = .ok (.iload_n 3, 1) := by decide +kernel
theorem dL_law_681 : decode cL_law 681 = .ok (.iconst 1, 1) := by decide +kernel
theorem dL_law_682 : decode cL_law 682 = .ok (.iadd, 1) := by decide +kernel
theorem dL_law_683 : decode cL_law 683 = .ok (.iaload, 1) := by decide +kernel
theorem dL_law_684 : decode cL_law 684 = .ok (.invokevirtual 90, 3) := by decide +kernel
theorem dL_law_687 : decode cL_law 687 = .ok (.aload_n 2, 1) := by decide +kernel
theorem dL_law_688 : decode cL_law 688 = .ok (.aload_n 0, 1) := by decide +kernel
theorem dL_law_689 : decode cL_law 689 = .ok (.iload_n 3, 1) := by decide +kernel
theorem dL_law_690 : decode cL_law 690 = .ok (.iconst 1, 1) := by decide +kernel
theorem dL_law_691 : decode cL_law 691 = .ok (.iadd, 1) := by decide +kernel
theorem dL_law_692 : decode cL_law 692 = .ok (.iaload, 1) := by decide +kernel
theorem dL_law_693 : decode cL_law 693 = .ok (.invokevirtual 93, 3) := by decide +kernel
theorem dL_law_696 : decode cL_law 696 = .ok (.if_icmp .eq 127, 3) := by decide +kernel
theorem dL_law_699 : decode cL_law 699 = .ok (.iconst 0, 1) := by decide +kernel
theorem dL_law_700 : decode cL_law 700 = .ok (.ireturn, 1) := by decide +kernel
theorem dL_law_701 : decode cL_law 701 = .ok (.aload_n 1, 1) := by decide +kernel
theorem dL_law_702 : decode cL_law 702 = .ok (.aload_n 0, 1) := by decide +kernel
theorem dL_law_703 : decode cL_law 703 = .ok (.iload_n 3, 1) := by decide +kernel
theorem dL_law_704 : decode cL_law 704 = .ok (.iconst 1, 1) := by decide +kernel
theorem dL_law_705 : decode cL_law 705 = .ok (.iadd, 1) := by decide +kernel
theorem dL_law_706 : decode cL_law 706 = .ok (.iaload, 1) := by decide +kernel
theorem dL_law_707 : decode cL_law 707 = .ok (.aload_n 0, 1) := by decide +kernel
theorem dL_law_708 : decode cL_law 708 = .ok (.iload_n 3, 1) := by decide +kernel
theorem dL_law_709 : decode cL_law 709 = .ok (.iconst 2, 1) := by decide +kernel
theorem dL_law_710 : decode cL_law 710 = .ok (.iadd, 1) := by decide +kernel
theorem dL_law_711 : decode cL_law 711 = .ok (.iaload, 1) := by decide +kernel
theorem dL_law_712 : decode cL_law 712 = .ok (.ifCond .eq 7, 3) := by decide +kernel
theorem dL_law_715 : decode cL_law 715 = .ok (.iconst 1, 1) := by decide +kernel
theorem dL_law_716 : decode cL_law 716 = .ok (.goto 4, 3) := by decide +kernel
theorem dL_law_719 : decode cL_law 719 = .ok (.iconst 0, 1) := by decide +kernel
theorem dL_law_720 : decode cL_law 720 = .ok (.invokevirtual 94, 3) := by decide +kernel
theorem dL_law_723 : decode cL_law 723 = .ok (.aload_n 2, 1) := by decide +kernel
theorem dL_law_724 : decode cL_law 724 = .ok (.aload_n 0, 1) := by decide +kernel
theorem dL_law_725 : decode cL_law 725 = .ok (.iload_n 3, 1) := by decide +kernel
theorem dL_law_726 : decode cL_law 726 = .ok (.iconst 1, 1) := by decide +kernel
theorem dL_law_727 : decode cL_law 727 = .ok (.iadd, 1) := by decide +kernel
theorem dL_law_728 : decode cL_law 728 = .ok (.iaload, 1) := by decide +kernel
theorem dL_law_729 : decode cL_law 729 = .ok (.aload_n 0, 1) := by decide +kernel
theorem dL_law_730 : decode cL_law 730 = .ok (.iload_n 3, 1) := by decide +kernel
theorem dL_law_731 : decode cL_law 731 = .ok (.iconst 2, 1) := by decide +kernel
theorem dL_law_732 : decode cL_law 732 = .ok (.iadd, 1) := by decide +kernel
theorem dL_law_733 : decode cL_law 733 = .ok (.iaload, 1) := by decide +kernel
theorem dL_law_734 : decode cL_law 734 = .ok (.ifCond .eq 7, 3) := by decide +kernel
theorem dL_law_737 : decode cL_law 737 = .ok (.iconst 1, 1) := by decide +kernel
theorem dL_law_738 : decode cL_law 738 = .ok (.goto 4, 3) := by decide +kernel
theorem dL_law_741 : decode cL_law 741 = .ok (.iconst 0, 1) := by decide +kernel
theorem dL_law_742 : decode cL_law 742 = .ok (.invokevirtual 98, 3) := by decide +kernel
theorem dL_law_745 : decode cL_law 745 = .ok (.if_icmp .eq 78, 3) := by decide +kernel
theorem dL_law_748 : decode cL_law 748 = .ok (.iconst 0, 1) := by decide +kernel
theorem dL_law_749 : decode cL_law 749 = .ok (.ireturn, 1) := by decide +kernel
theorem dL_law_750 : decode cL_law 750 = .ok (.aload_n 1, 1) := by decide +kernel
theorem dL_law_751 : decode cL_law 751 = .ok (.aload_n 0, 1) := by decide +kernel
theorem dL_law_752 : decode cL_law 752 = .ok (.iload_n 3, 1) := by decide +kernel
theorem dL_law_753 : decode cL_law 753 = .ok (.iconst 1, 1) := by decide +kernel
theorem dL_law_754 : decode cL_law 754 = .ok (.iadd, 1) := by decide +kernel
theorem dL_law_755 : decode cL_law 755 = .ok (.iaload, 1) := by decide +kernel
theorem dL_law_756 : decode cL_law 756 = .ok (.invokevirtual 99, 3) := by decide +kernel
theorem dL_law_759 : decode cL_law 759 = .ok (.aload_n 2, 1) := by decide +kernel
theorem dL_law_760 : decode cL_law 760 = .ok (.aload_n 0, 1) := by decide +kernel
theorem dL_law_761 : decode cL_law 761 = .ok (.iload_n 3, 1) := by decide +kernel
theorem dL_law_762 : decode cL_law 762 = .ok (.iconst 1, 1) := by decide +kernel
theorem dL_law_763 : decode cL_law 763 = .ok (.iadd, 1) := by decide +kernel
theorem dL_law_764 : decode cL_law 764 = .ok (.iaload, 1) := by decide +kernel
theorem dL_law_765 : decode cL_law 765 = .ok (.invokevirtual 102, 3) := by decide +kernel
theorem dL_law_768 : decode cL_law 768 = .ok (.if_icmp .eq 55, 3) := by decide +kernel
theorem dL_law_771 : decode cL_law 771 = .ok (.iconst 0, 1) := by decide +kernel
theorem dL_law_772 : decode cL_law 772 = .ok (.ireturn, 1) := by decide +kernel
theorem dL_law_773 : decode cL_law 773 = .ok (.aload_n 1, 1) := by decide +kernel
theorem dL_law_774 : decode cL_law 774 = .ok (.aload_n 0, 1) := by decide +kernel
theorem dL_law_775 : decode cL_law 775 = .ok (.iload_n 3, 1) := by decide +kernel
theorem dL_law_776 : decode cL_law 776 = .ok (.iconst 1, 1) := by decide +kernel
theorem dL_law_777 : decode cL_law 777 = .ok (.iadd, 1) := by decide +kernel
theorem dL_law_778 : decode cL_law 778 = .ok (.iaload, 1) := by decide +kernel
theorem dL_law_779 : decode cL_law 779 = .ok (.invokevirtual 103, 3) := by decide +kernel
theorem dL_law_782 : decode cL_law 782 = .ok (.aload_n 2, 1) := by decide +kernel
theorem dL_law_783 : decode cL_law 783 = .ok (.aload_n 0, 1) := by decide +kernel
theorem dL_law_784 : decode cL_law 784 = .ok (.iload_n 3, 1) := by decide +kernel
theorem dL_law_785 : decode cL_law 785 = .ok (.iconst 1, 1) := by decide +kernel
theorem dL_law_786 : decode cL_law 786 = .ok (.iadd, 1) := by decide +kernel
theorem dL_law_787 : decode cL_law 787 = .ok (.iaload, 1) := by decide +kernel
theorem dL_law_788 : decode cL_law 788 = .ok (.invokevirtual 106, 3) := by decide +kernel
theorem dL_law_791 : decode cL_law 791 = .ok (.if_icmp .eq 32, 3) := by decide +kernel
theorem dL_law_794 : decode cL_law 794 = .ok (.iconst 0, 1) := by decide +kernel
theorem dL_law_795 : decode cL_law 795 = .ok (.ireturn, 1) := by decide +kernel
theorem dL_law_796 : decode cL_law 796 = .ok (.aload_n 1, 1) := by decide +kernel
theorem dL_law_797 : decode cL_law 797 = .ok (.invokevirtual 107, 3) := by decide +kernel
theorem dL_law_800 : decode cL_law 800 = .ok (.aload_n 2, 1) := by decide +kernel
theorem dL_law_801 : decode cL_law 801 = .ok (.invokevirtual 110, 3) := by decide +kernel
theorem dL_law_804 : decode cL_law 804 = .ok (.if_icmp .eq 19, 3) := by decide +kernel
theorem dL_law_807 : decode cL_law 807 = .ok (.iconst 0, 1) := by decide +kernel
theorem dL_law_808 : decode cL_law 808 = .ok (.ireturn, 1) := by decide +kernel
theorem dL_law_809 : decode cL_law 809 = .ok (.aload_n 1, 1) := by decide +kernel
theorem dL_law_810 : decode cL_law 810 = .ok (.invokevirtual 111, 3) := by decide +kernel
theorem dL_law_813 : decode cL_law 813 = .ok (.aload_n 2, 1) := by decide +kernel
theorem dL_law_814 : decode cL_law 814 = .ok (.invokevirtual 115, 3) := by decide +kernel
theorem dL_law_817 : decode cL_law 817 = .ok (.lcmp, 1) := by decide +kernel
theorem dL_law_818 : decode cL_law 818 = .ok (.ifCond .eq 5, 3) := by decide +kernel
theorem dL_law_821 : decode cL_law 821 = .ok (.iconst 0, 1) := by decide +kernel
theorem dL_law_822 : decode cL_law 822 = .ok (.ireturn, 1) := by decide +kernel
theorem dL_law_823 : decode cL_law 823 = .ok (.iinc 3 5, 3) := by decide +kernel
theorem dL_law_826 : decode cL_law 826 = .ok (.goto (-808), 3) := by decide +kernel
theorem dL_law_829 : decode cL_law 829 = .ok (.iconst 1, 1) := by decide +kernel
theorem dL_law_830 : decode cL_law 830 = .ok (.ireturn, 1) := by decide +kernel
