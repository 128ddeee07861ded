theorem dX4_bar_114 : decode cX4_bar 114 = .ok (.iaload, 1) := by decide +kernel
theorem dX4_bar_115 : decode cX4_bar 115 = .ok (.ireturn, 1) := by decide +kernel
theorem dX4_bar_116 : decode cX4_bar 116 = .ok (.aload_n 0, 1) := by decide +kernel
theorem dX4_bar_117 : decode cX4_bar 117 = .ok (.getfield 10, 3) := by decide +kernel
theorem dX4_bar_120 : decode cX4_bar 120 = .ok (.getfield 40, 3) := by decide +kernel
theorem dX4_bar_123 : decode cX4_bar 123 = .ok (.getfield 123, 3) := by decide +kernel
theorem dX4_bar_126 : decode cX4_bar 126 = .ok (.iload_n 1, 1) := by decide +kernel
theorem dX4_bar_127 : decode cX4_bar 127 = .ok (.iaload, 1) := by decide +kernel
theorem dX4_bar_128 : decode cX4_bar 128 = .ok (.iload 4, 2) := by decide +kernel
theorem dX4_bar_130 : decode cX4_bar 130 = .ok (.invokestatic 156, 3) := by decide +kernel
theorem dX4_bar_133 : decode cX4_bar 133 = .ok (.ireturn, 1) := by decide +kernel
theorem dX4_bar_134 : decode cX4_bar 134 = .ok (.aload_n 0, 1) := by decide +kernel
theorem dX4_bar_135 : decode cX4_bar 135 = .ok (.getfield 10, 3) := by decide +kernel
theorem dX4_bar_138 : decode cX4_bar 138 = .ok (.getfield 40, 3) := by decide +kernel
theorem dX4_bar_141 : decode cX4_bar 141 = .ok (.getfield 127, 3) := by decide +kernel
theorem dX4_bar_144 : decode cX4_bar 144 = .ok (.iload_n 1, 1) := by decide +kernel
theorem dX4_bar_145 : decode cX4_bar 145 = .ok (.iaload, 1) := by decide +kernel
theorem dX4_bar_146 : decode cX4_bar 146 = .ok (.iload 5, 2) := by decide +kernel
theorem dX4_bar_148 : decode cX4_bar 148 = .ok (.invokestatic 161, 3) := by decide +kernel
theorem dX4_bar_151 : decode cX4_bar 151 = .ok (.ireturn, 1) := by decide +kernel
theorem dX4_bar_152 : decode cX4_bar 152 = .ok (.aload_n 0, 1) := by decide +kernel
theorem dX4_bar_153 : decode cX4_bar 153 = .ok (.getfield 10, 3) := by decide +kernel
theorem dX4_bar_156 : decode cX4_bar 156 = .ok (.getfield 40, 3) := by decide +kernel
theorem dX4_bar_159 : decode cX4_bar 159 = .ok (.getfield 123, 3) := by decide +kernel
theorem dX4_bar_162 : decode cX4_bar 162 = .ok (.iload_n 1, 1) := by decide +kernel
theorem dX4_bar_163 : decode cX4_bar 163 = .ok (.iaload, 1) := by decide +kernel
theorem dX4_bar_164 : decode cX4_bar 164 = .ok (.iload 4, 2) := by decide +kernel
theorem dX4_bar_166 : decode cX4_bar 166 = .ok (.if_icmp .ge 7, 3) := by decide +kernel
theorem dX4_bar_169 : decode cX4_bar 169 = .ok (.iconst 1, 1) := by decide +kernel
theorem dX4_bar_170 : decode cX4_bar 170 = .ok (.goto 4, 3) := by decide +kernel
theorem dX4_bar_173 : decode cX4_bar 173 = .ok (.iconst 0, 1) := by decide +kernel
theorem dX4_bar_174 : decode cX4_bar 174 = .ok (.invokestatic 139, 3) := by decide +kernel
theorem dX4_bar_177 : decode cX4_bar 177 = .ok (.ireturn, 1) := by decide +kernel
theorem dX4_bar_178 : decode cX4_bar 178 = .ok (.aload_n 0, 1) := by decide +kernel
theorem dX4_bar_179 : decode cX4_bar 179 = .ok (.getfield 10, 3) := by decide +kernel
theorem dX4_bar_182 : decode cX4_bar 182 = .ok (.getfield 40, 3) := by decide +kernel
theorem dX4_bar_185 : decode cX4_bar 185 = .ok (.getfield 127, 3) := by decide +kernel
theorem dX4_bar_188 : decode cX4_bar 188 = .ok (.iload_n 1, 1) := by decide +kernel
theorem dX4_bar_189 : decode cX4_bar 189 = .ok (.iaload, 1) := by decide +kernel
theorem dX4_bar_190 : decode cX4_bar 190 = .ok (.iload 5, 2) := by decide +kernel
theorem dX4_bar_192 : decode cX4_bar 192 = .ok (.if_icmp .le 7, 3) := by decide +kernel
theorem dX4_bar_195 : decode cX4_bar 195 = .ok (.iconst 1, 1) := by decide +kernel
theorem dX4_bar_196 : decode cX4_bar 196 = .ok (.goto 4, 3) := by decide +kernel
theorem dX4_bar_199 : decode cX4_bar 199 = .ok (.iconst 0, 1) := by decide +kernel
theorem dX4_bar_200 : decode cX4_bar 200 = .ok (.invokestatic 139, 3) := by decide +kernel
theorem dX4_bar_203 : decode cX4_bar 203 = .ok (.ireturn, 1) := by decide +kernel
theorem dX4_shown_0 : decode cX4_shown 0 = .ok (.aload_n 0, 1) := by decide +kernel
theorem dX4_shown_1 : decode cX4_shown 1 = .ok (.iload_n 1, 1) := by decide +kernel
theorem dX4_shown_2 : decode cX4_shown 2 = .ok (.invokevirtual 164, 3) := by decide +kernel
theorem dX4_shown_5 : decode cX4_shown 5 = .ok (.ifCond .eq 13, 3) := by decide +kernel
theorem dX4_shown_8 : decode cX4_shown 8 = .ok (.iload_n 2, 1) := by decide +kernel
theorem dX4_shown_9 : decode cX4_shown 9 = .ok (.iconst 0, 1) := by decide +kernel
theorem dX4_shown_10 : decode cX4_shown 10 = .ok (.bipush 11, 2) := by decide +kernel
theorem dX4_shown_12 : decode cX4_shown 12 = .ok (.invokestatic 60, 3) := by decide +kernel
theorem dX4_shown_15 : decode cX4_shown 15 = .ok (.ifCond .ne 5, 3) := by decide +kernel
theorem dX4_shown_18 : decode cX4_shown 18 = .ok (.iconst (-1), 1) := by decide +kernel
theorem dX4_shown_19 : decode cX4_shown 19 = .ok (.ireturn, 1) := by decide +kernel
theorem dX4_shown_20 : decode cX4_shown 20 = .ok (.aload_n 0, 1) := by decide +kernel
theorem dX4_shown_21 : decode cX4_shown 21 = .ok (.getfield 10, 3) := by decide +kernel
theorem dX4_shown_24 : decode cX4_shown 24 = .ok (.getfield 40, 3) := by decide +kernel
theorem dX4_shown_27 : decode cX4_shown 27 = .ok (.getfield 67, 3) := by decide +kernel
theorem dX4_shown_30 : decode cX4_shown 30 = .ok (.istore_n 3, 1) := by decide +kernel
theorem dX4_shown_31 : decode cX4_shown 31 = .ok (.iload_n 2, 1) := by decide +kernel
theorem dX4_shown_32 : decode cX4_shown 32 = .ok (.iload_n 3, 1) := by decide +kernel
theorem dX4_shown_33 : decode cX4_shown 33 = .ok (.if_icmp .lt 6, 3) := by decide +kernel
theorem dX4_shown_36 : decode cX4_shown 36 = .ok (.bipush (-9), 2) := by decide +kernel
theorem dX4_shown_38 : decode cX4_shown 38 = .ok (.ireturn, 1) := by decide +kernel
theorem dX4_shown_39 : decode cX4_shown 39 = .ok (.aload_n 0, 1) := by decide +kernel
theorem dX4_shown_40 : decode cX4_shown 40 = .ok (.getfield 10, 3) := by decide +kernel
theorem dX4_shown_43 : decode cX4_shown 43 = .ok (.iload_n 1, 1) := by decide +kernel
theorem dX4_shown_44 : decode cX4_shown 44 = .ok (.iload_n 3, 1) := by decide +kernel
theorem dX4_shown_45 : decode cX4_shown 45 = .ok (.invokevirtual 167, 3) := by decide +kernel
theorem dX4_shown_48 : decode cX4_shown 48 = .ok (.istore 4, 2) := by decide +kernel
theorem dX4_shown_50 : decode cX4_shown 50 = .ok (.iload 4, 2) := by decide +kernel
theorem dX4_shown_52 : decode cX4_shown 52 = .ok (.ifCond .le 16, 3) := by decide +kernel
theorem dX4_shown_55 : decode cX4_shown 55 = .ok (.iload_n 2, 1) := by decide +kernel
theorem dX4_shown_56 : decode cX4_shown 56 = .ok (.iload_n 3, 1) := by decide +kernel
theorem dX4_shown_57 : decode cX4_shown 57 = .ok (.iconst 1, 1) := by decide +kernel
theorem dX4_shown_58 : decode cX4_shown 58 = .ok (.isub, 1) := by decide +kernel
theorem dX4_shown_59 : decode cX4_shown 59 = .ok (.if_icmp .ne 9, 3) := by decide +kernel
theorem dX4_shown_62 : decode cX4_shown 62 = .ok (.bipush (-10), 2) := by decide +kernel
theorem dX4_shown_64 : decode cX4_shown 64 = .ok (.iload 4, 2) := by decide +kernel
theorem dX4_shown_66 : decode cX4_shown 66 = .ok (.isub, 1) := by decide +kernel
theorem dX4_shown_67 : decode cX4_shown 67 = .ok (.ireturn, 1) := by decide +kernel
theorem dX4_shown_68 : decode cX4_shown 68 = .ok (.aload_n 0, 1) := by decide +kernel
theorem dX4_shown_69 : decode cX4_shown 69 = .ok (.getfield 10, 3) := by decide +kernel
theorem dX4_shown_72 : decode cX4_shown 72 = .ok (.iload_n 1, 1) := by decide +kernel
theorem dX4_shown_73 : decode cX4_shown 73 = .ok (.iload_n 2, 1) := by decide +kernel
theorem dX4_shown_74 : decode cX4_shown 74 = .ok (.invokevirtual 170, 3) := by decide +kernel
theorem dX4_shown_77 : decode cX4_shown 77 = .ok (.ireturn, 1) := by decide +kernel
theorem dX4_rowOf_0 : decode cX4_rowOf 0 = .ok (.aload_n 0, 1) := by decide +kernel
theorem dX4_rowOf_1 : decode cX4_rowOf 1 = .ok (.iload_n 1, 1) := by decide +kernel
theorem dX4_rowOf_2 : decode cX4_rowOf 2 = .ok (.invokevirtual 117, 3) := by decide +kernel
theorem dX4_rowOf_5 : decode cX4_rowOf 5 = .ok (.ifCond .eq 11, 3) := by decide +kernel
theorem dX4_rowOf_8 : decode cX4_rowOf 8 = .ok (.aload_n 0, 1) := by decide +kernel
theorem dX4_rowOf_9 : decode cX4_rowOf 9 = .ok (.iload_n 2, 1) := by decide +kernel
theorem dX4_rowOf_10 : decode cX4_rowOf 10 = .ok (.invokevirtual 164, 3) := by decide +kernel
theorem dX4_rowOf_13 : decode cX4_rowOf 13 = .ok (.ifCond .ne 5, 3) := by decide +kernel
theorem dX4_rowOf_16 : decode cX4_rowOf 16 = .ok (.iconst (-1), 1) := by decide +kernel
theorem dX4_rowOf_17 : decode cX4_rowOf 17 = .ok (.ireturn, 1) := by decide +kernel
theorem dX4_rowOf_18 : decode cX4_rowOf 18 = .ok (.aload_n 0, 1) := by decide +kernel
theorem dX4_rowOf_19 : decode cX4_rowOf 19 = .ok (.getfield 10, 3) := by decide +kernel
theorem dX4_rowOf_22 : decode cX4_rowOf 22 = .ok (.iload_n 1, 1) := by decide +kernel
theorem dX4_rowOf_23 : decode cX4_rowOf 23 = .ok (.iload_n 2, 1) := by decide +kernel
theorem dX4_rowOf_24 : decode cX4_rowOf 24 = .ok (.invokevirtual 173, 3) := by decide +kernel
theorem dX4_rowOf_27 : decode cX4_rowOf 27 = .ok (.ireturn, 1) := by decide +kernel
theorem dX4_day_0 : decode cX4_day 0 = .ok (.aload_n 0, 1) := by decide +kernel
theorem dX4_day_1 : decode cX4_day 1 = .ok (.iload_n 1, 1) := by decide +kernel
theorem dX4_day_2 : decode cX4_day 2 = .ok (.invokevirtual 164, 3) := by decide +kernel
theorem dX4_day_5 : decode cX4_day 5 = .ok (.ifCond .ne 5, 3) := by decide +kernel
theorem dX4_day_8 : decode cX4_day 8 = .ok (.iconst (-1), 1) := by decide +kernel
theorem dX4_day_9 : decode cX4_day 9 = .ok (.ireturn, 1) := by decide +kernel
theorem dX4_day_10 : decode cX4_day 10 = .ok (.iload_n 2, 1) := by decide +kernel
theorem dX4_day_11 : decode cX4_day 11 = .ok (.tableswitch 104 0 5 #[37, 46, 51, 63, 76, 95], 37) := by decide +kernel
theorem dX4_day_48 : decode cX4_day 48 = .ok (.aload_n 0, 1) := by decide +kernel
theorem dX4_day_49 : decode cX4_day 49 = .ok (.getfield 10, 3) := by decide +kernel
theorem dX4_day_52 : decode cX4_day 52 = .ok (.iload_n 1, 1) := by decide +kernel
theorem dX4_day_53 : decode cX4_day 53 = .ok (.invokevirtual 176, 3) := by decide +kernel
theorem dX4_day_56 : decode cX4_day 56 = .ok (.ireturn, 1) := by decide +kernel
theorem dX4_day_57 : decode cX4_day 57 = .ok (.iload_n 1, 1) := by decide +kernel
theorem dX4_day_58 : decode cX4_day 58 = .ok (.bipush 7, 2) := by decide +kernel
theorem dX4_day_60 : decode cX4_day 60 = .ok (.irem, 1) := by decide +kernel
theorem dX4_day_61 : decode cX4_day 61 = .ok (.ireturn, 1) := by decide +kernel
theorem dX4_day_62 : decode cX4_day 62 = .ok (.aload_n 0, 1) := by decide +kernel
theorem dX4_day_63 : decode cX4_day 63 = .ok (.getfield 10, 3) := by decide +kernel
theorem dX4_day_66 : decode cX4_day 66 = .ok (.getfield 40, 3) := by decide +kernel
theorem dX4_day_69 : decode cX4_day 69 = .ok (.iload_n 1, 1) := by decide +kernel
theorem dX4_day_70 : decode cX4_day 70 = .ok (.invokevirtual 179, 3) := by decide +kernel
theorem dX4_day_73 : decode cX4_day 73 = .ok (.ireturn, 1) := by decide +kernel
theorem dX4_day_74 : decode cX4_day 74 = .ok (.aload_n 0, 1) := by decide +kernel
theorem dX4_day_75 : decode cX4_day 75 = .ok (.getfield 10, 3) := by decide +kernel
theorem dX4_day_78 : decode cX4_day 78 = .ok (.getfield 40, 3) := by decide +kernel
theorem dX4_day_81 : decode cX4_day 81 = .ok (.iload_n 1, 1) := by decide +kernel
theorem dX4_day_82 : decode cX4_day 82 = .ok (.iload_n 1, 1) := by decide +kernel
theorem dX4_day_83 : decode cX4_day 83 = .ok (.invokevirtual 83, 3) := by decide +kernel
theorem dX4_day_86 : decode cX4_day 86 = .ok (.ireturn, 1) := by decide +kernel
theorem dX4_day_87 : decode cX4_day 87 = .ok (.aload_n 0, 1) := by decide +kernel
theorem dX4_day_88 : decode cX4_day 88 = .ok (.getfield 10, 3) := by decide +kernel
theorem dX4_day_91 : decode cX4_day 91 = .ok (.iload_n 1, 1) := by decide +kernel
theorem dX4_day_92 : decode cX4_day 92 = .ok (.aload_n 0, 1) := by decide +kernel
theorem dX4_day_93 : decode cX4_day 93 = .ok (.getfield 10, 3) := by decide +kernel
theorem dX4_day_96 : decode cX4_day 96 = .ok (.getfield 40, 3) := by decide +kernel
theorem dX4_day_99 : decode cX4_day 99 = .ok (.getfield 67, 3) := by decide +kernel
theorem dX4_day_102 : decode cX4_day 102 = .ok (.invokevirtual 167, 3) := by decide +kernel
theorem dX4_day_105 : decode cX4_day 105 = .ok (.ireturn, 1) := by decide +kernel
theorem dX4_day_106 : decode cX4_day 106 = .ok (.aload_n 0, 1) := by decide +kernel
theorem dX4_day_107 : decode cX4_day 107 = .ok (.getfield 10, 3) := by decide +kernel
theorem dX4_day_110 : decode cX4_day 110 = .ok (.iload_n 1, 1) := by decide +kernel
theorem dX4_day_111 : decode cX4_day 111 = .ok (.invokevirtual 182, 3) := by decide +kernel
theorem dX4_day_114 : decode cX4_day 114 = .ok (.ireturn, 1) := by decide +kernel
theorem dX4_day_115 : decode cX4_day 115 = .ok (.iconst (-1), 1) := by decide +kernel
theorem dX4_day_116 : decode cX4_day 116 = .ok (.ireturn, 1) := by decide +kernel
theorem dX4_enough_0 : decode cX4_enough 0 = .ok (.iconst 1, 1) := by decide +kernel
theorem dX4_enough_1 : decode cX4_enough 1 = .ok (.istore_n 1, 1) := by decide +kernel
theorem dX4_enough_2 : decode cX4_enough 2 = .ok (.aload_n 0, 1) := by decide +kernel
theorem dX4_enough_3 : decode cX4_enough 3 = .ok (.getfield 10, 3) := by decide +kernel
theorem dX4_enough_6 : decode cX4_enough 6 = .ok (.getfield 40, 3) := by decide +kernel
theorem dX4_enough_9 : decode cX4_enough 9 = .ok (.getfield 48, 3) := by decide +kernel
theorem dX4_enough_12 : decode cX4_enough 12 = .ok (.istore_n 2, 1) := by decide +kernel
theorem dX4_enough_13 : decode cX4_enough 13 = .ok (.iload_n 2, 1) := by decide +kernel
theorem dX4_enough_14 : decode cX4_enough 14 = .ok (.aload_n 0, 1) := by decide +kernel
theorem dX4_enough_15 : decode cX4_enough 15 = .ok (.getfield 10, 3) := by decide +kernel
theorem dX4_enough_18 : decode cX4_enough 18 = .ok (.getfield 40, 3) := by decide +kernel
theorem dX4_enough_21 : decode cX4_enough 21 = .ok (.getfield 54, 3) := by decide +kernel
theorem dX4_enough_24 : decode cX4_enough 24 = .ok (.if_icmp .gt 22, 3) := by decide +kernel
theorem dX4_enough_27 : decode cX4_enough 27 = .ok (.iload_n 1, 1) := by decide +kernel
theorem dX4_enough_28 : decode cX4_enough 28 = .ok (.aload_n 0, 1) := by decide +kernel
theorem dX4_enough_29 : decode cX4_enough 29 = .ok (.getfield 10, 3) := by decide +kernel
theorem dX4_enough_32 : decode cX4_enough 32 = .ok (.iload_n 2, 1) := by decide +kernel
theorem dX4_enough_33 : decode cX4_enough 33 = .ok (.invokevirtual 182, 3) := by decide +kernel
theorem dX4_enough_36 : decode cX4_enough 36 = .ok (.invokestatic 156, 3) := by decide +kernel
theorem dX4_enough_39 : decode cX4_enough 39 = .ok (.istore_n 1, 1) := by decide +kernel
theorem dX4_enough_40 : decode cX4_enough 40 = .ok (.iinc 2 1, 3) := by decide +kernel
theorem dX4_enough_43 : decode cX4_enough 43 = .ok (.goto (-30), 3) := by decide +kernel
theorem dX4_enough_46 : decode cX4_enough 46 = .ok (.iload_n 1, 1) := by decide +kernel
theorem dX4_enough_47 : decode cX4_enough 47 = .ok (.ireturn, 1) := by decide +kernel
theorem dX4_ifRows_0 : decode cX4_ifRows 0 = .ok (.iload_n 1, 1) := by decide +kernel
theorem dX4_ifRows_1 : decode cX4_ifRows 1 = .ok (.iconst 1, 1) := by decide +kernel
theorem dX4_ifRows_2 : decode cX4_ifRows 2 = .ok (.bipush 12, 2) := by decide +kernel
theorem dX4_ifRows_4 : decode cX4_ifRows 4 = .ok (.invokestatic 60, 3) := by decide +kernel
theorem dX4_ifRows_7 : decode cX4_ifRows 7 = .ok (.ifCond .ne 5, 3) := by decide +kernel
theorem dX4_ifRows_10 : decode cX4_ifRows 10 = .ok (.iconst (-1), 1) := by decide +kernel
theorem dX4_ifRows_11 : decode cX4_ifRows 11 = .ok (.ireturn, 1) := by decide +kernel
theorem dX4_ifRows_12 : decode cX4_ifRows 12 = .ok (.aload_n 0, 1) := by decide +kernel
theorem dX4_ifRows_13 : decode cX4_ifRows 13 = .ok (.getfield 10, 3) := by decide +kernel
theorem dX4_ifRows_16 : decode cX4_ifRows 16 = .ok (.iload_n 1, 1) := by decide +kernel
theorem dX4_ifRows_17 : decode cX4_ifRows 17 = .ok (.invokevirtual 185, 3) := by decide +kernel
theorem dX4_ifRows_20 : decode cX4_ifRows 20 = .ok (.ireturn, 1) := by decide +kernel
theorem dX4_free_0 : decode cX4_free 0 = .ok (.iload_n 1, 1) := by decide +kernel
theorem dX4_free_1 : decode cX4_free 1 = .ok (.iconst 1, 1) := by decide +kernel
theorem dX4_free_2 : decode cX4_free 2 = .ok (.bipush 42, 2) := by decide +kernel
theorem dX4_free_4 : decode cX4_free 4 = .ok (.invokestatic 60, 3) := by decide +kernel
theorem dX4_free_7 : decode cX4_free 7 = .ok (.ifCond .ne 5, 3) := by decide +kernel
theorem dX4_free_10 : decode cX4_free 10 = .ok (.iconst (-1), 1) := by decide +kernel
theorem dX4_free_11 : decode cX4_free 11 = .ok (.ireturn, 1) := by decide +kernel
theorem dX4_free_12 : decode cX4_free 12 = .ok (.aload_n 0, 1) := by decide +kernel
theorem dX4_free_13 : decode cX4_free 13 = .ok (.getfield 10, 3) := by decide +kernel
theorem dX4_free_16 : decode cX4_free 16 = .ok (.getfield 40, 3) := by decide +kernel
theorem dX4_free_19 : decode cX4_free 19 = .ok (.getfield 48, 3) := by decide +kernel
theorem dX4_free_22 : decode cX4_free 22 = .ok (.istore_n 3, 1) := by decide +kernel
theorem dX4_free_23 : decode cX4_free 23 = .ok (.iload_n 3, 1) := by decide +kernel
theorem dX4_free_24 : decode cX4_free 24 = .ok (.iload_n 1, 1) := by decide +kernel
theorem dX4_free_25 : decode cX4_free 25 = .ok (.iadd, 1) := by decide +kernel
theorem dX4_free_26 : decode cX4_free 26 = .ok (.iconst 1, 1) := by decide +kernel
theorem dX4_free_27 : decode cX4_free 27 = .ok (.isub, 1) := by decide +kernel
theorem dX4_free_28 : decode cX4_free 28 = .ok (.aload_n 0, 1) := by decide +kernel
theorem dX4_free_29 : decode cX4_free 29 = .ok (.getfield 10, 3) := by decide +kernel
theorem dX4_free_32 : decode cX4_free 32 = .ok (.getfield 40, 3) := by decide +kernel
theorem dX4_free_35 : decode cX4_free 35 = .ok (.getfield 54, 3) := by decide +kernel
theorem dX4_free_38 : decode cX4_free 38 = .ok (.if_icmp .gt 67, 3) := by decide +kernel
theorem dX4_free_41 : decode cX4_free 41 = .ok (.iload_n 3, 1) := by decide +kernel
theorem dX4_free_42 : decode cX4_free 42 = .ok (.iload_n 1, 1) := by decide +kernel
theorem dX4_free_43 : decode cX4_free 43 = .ok (.iadd, 1) := by decide +kernel
theorem dX4_free_44 : decode cX4_free 44 = .ok (.iconst 1, 1) := by decide +kernel
theorem dX4_free_45 : decode cX4_free 45 = .ok (.isub, 1) := by decide +kernel
theorem dX4_free_46 : decode cX4_free 46 = .ok (.istore 4, 2) := by decide +kernel
theorem dX4_free_48 : decode cX4_free 48 = .ok (.iload_n 2, 1) := by decide +kernel
theorem dX4_free_49 : decode cX4_free 49 = .ok (.ifCond .eq 23, 3) := by decide +kernel
theorem dX4_free_52 : decode cX4_free 52 = .ok (.aload_n 0, 1) := by decide +kernel
theorem dX4_free_53 : decode cX4_free 53 = .ok (.getfield 10, 3) := by decide +kernel
theorem dX4_free_56 : decode cX4_free 56 = .ok (.iload_n 3, 1) := by decide +kernel
theorem dX4_free_57 : decode cX4_free 57 = .ok (.invokevirtual 176, 3) := by decide +kernel
theorem dX4_free_60 : decode cX4_free 60 = .ok (.aload_n 0, 1) := by decide +kernel
theorem dX4_free_61 : decode cX4_free 61 = .ok (.getfield 10, 3) := by decide +kernel
theorem dX4_free_64 : decode cX4_free 64 = .ok (.iload 4, 2) := by decide +kernel
theorem dX4_free_66 : decode cX4_free 66 = .ok (.invokevirtual 176, 3) := by decide +kernel
theorem dX4_free_69 : decode cX4_free 69 = .ok (.if_icmp .ne 7, 3) := by decide +kernel
theorem dX4_free_72 : decode cX4_free 72 = .ok (.iconst 1, 1) := by decide +kernel
theorem dX4_free_73 : decode cX4_free 73 = .ok (.goto 4, 3) := by decide +kernel
theorem dX4_free_76 : decode cX4_free 76 = .ok (.iconst 0, 1) := by decide +kernel
theorem dX4_free_77 : decode cX4_free 77 = .ok (.istore 5, 2) := by decide +kernel
theorem dX4_free_79 : decode cX4_free 79 = .ok (.iload 5, 2) := by decide +kernel
theorem dX4_free_81 : decode cX4_free 81 = .ok (.ifCond .eq 18, 3) := by decide +kernel
theorem dX4_free_84 : decode cX4_free 84 = .ok (.aload_n 0, 1) := by decide +kernel
theorem dX4_free_85 : decode cX4_free 85 = .ok (.getfield 10, 3) := by decide +kernel
theorem dX4_free_88 : decode cX4_free 88 = .ok (.iload_n 3, 1) := by decide +kernel
theorem dX4_free_89 : decode cX4_free 89 = .ok (.iload 4, 2) := by decide +kernel
theorem dX4_free_91 : decode cX4_free 91 = .ok (.invokevirtual 188, 3) := by decide +kernel
theorem dX4_free_94 : decode cX4_free 94 = .ok (.ifCond .eq 5, 3) := by decide +kernel
theorem dX4_free_97 : decode cX4_free 97 = .ok (.iload_n 3, 1) := by decide +kernel
theorem dX4_free_98 : decode cX4_free 98 = .ok (.ireturn, 1) := by decide +kernel
theorem dX4_free_99 : decode cX4_free 99 = .ok (.iinc 3 1, 3) := by decide +kernel
theorem dX4_free_102 : decode cX4_free 102 = .ok (.goto (-79), 3) := by decide +kernel
theorem dX4_free_105 : decode cX4_free 105 = .ok (.bipush (-9), 2) := by decide +kernel
theorem dX4_free_107 : decode cX4_free 107 = .ok (.ireturn, 1) := by decide +kernel
theorem dX4_bestDay_0 : decode cX4_bestDay 0 = .ok (.aload_n 0, 1) := by decide +kernel
theorem dX4_bestDay_1 : decode cX4_bestDay 1 = .ok (.iload_n 1, 1) := by decide +kernel
theorem dX4_bestDay_2 : decode cX4_bestDay 2 = .ok (.invokevirtual 117, 3) := by decide +kernel
theorem dX4_bestDay_5 : decode cX4_bestDay 5 = .ok (.ifCond .ne 5, 3) := by decide +kernel
theorem dX4_bestDay_8 : decode cX4_bestDay 8 = .ok (.iconst (-1), 1) := by decide +kernel
theorem dX4_bestDay_9 : decode cX4_bestDay 9 = .ok (.ireturn, 1) := by decide +kernel
theorem dX4_bestDay_10 : decode cX4_bestDay 10 = .ok (.aload_n 0, 1) := by decide +kernel
theorem dX4_bestDay_11 : decode cX4_bestDay 11 = .ok (.getfield 16, 3) := by decide +kernel
theorem dX4_bestDay_14 : decode cX4_bestDay 14 = .ok (.getfield 40, 3) := by decide +kernel
theorem dX4_bestDay_17 : decode cX4_bestDay 17 = .ok (.astore_n 2, 1) := by decide +kernel
theorem dX4_bestDay_18 : decode cX4_bestDay 18 = .ok (.aload_n 2, 1) := by decide +kernel
theorem dX4_bestDay_19 : decode cX4_bestDay 19 = .ok (.aload_n 0, 1) := by decide +kernel
theorem dX4_bestDay_20 : decode cX4_bestDay 20 = .ok (.getfield 10, 3) := by decide +kernel
theorem dX4_bestDay_23 : decode cX4_bestDay 23 = .ok (.getfield 40, 3) := by decide +kernel
theorem dX4_bestDay_26 : decode cX4_bestDay 26 = .ok (.invokevirtual 98, 3) := by decide +kernel
theorem dX4_bestDay_29 : decode cX4_bestDay 29 = .ok (.aload_n 0, 1) := by decide +kernel
theorem dX4_bestDay_30 : decode cX4_bestDay 30 = .ok (.getfield 10, 3) := by decide +kernel
theorem dX4_bestDay_33 : decode cX4_bestDay 33 = .ok (.getfield 40, 3) := by decide +kernel
theorem dX4_bestDay_36 : decode cX4_bestDay 36 = .ok (.getfield 123, 3) := by decide +kernel
theorem dX4_bestDay_39 : decode cX4_bestDay 39 = .ok (.iload_n 1, 1) := by decide +kernel
theorem dX4_bestDay_40 : decode cX4_bestDay 40 = .ok (.iaload, 1) := by decide +kernel
theorem dX4_bestDay_41 : decode cX4_bestDay 41 = .ok (.istore_n 3, 1) := by decide +kernel
theorem dX4_bestDay_42 : decode cX4_bestDay 42 = .ok (.aload_n 0, 1) := by decide +kernel
theorem dX4_bestDay_43 : decode cX4_bestDay 43 = .ok (.getfield 10, 3) := by decide +kernel
theorem dX4_bestDay_46 : decode cX4_bestDay 46 = .ok (.getfield 40, 3) := by decide +kernel
theorem dX4_bestDay_49 : decode cX4_bestDay 49 = .ok (.getfield 127, 3) := by decide +kernel
theorem dX4_bestDay_52 : decode cX4_bestDay 52 = .ok (.iload_n 1, 1) := by decide +kernel
theorem dX4_bestDay_53 : decode cX4_bestDay 53 = .ok (.iaload, 1) := by decide +kernel
theorem dX4_bestDay_54 : decode cX4_bestDay 54 = .ok (.iload_n 3, 1) := by decide +kernel
theorem dX4_bestDay_55 : decode cX4_bestDay 55 = .ok (.isub, 1) := by decide +kernel
theorem dX4_bestDay_56 : decode cX4_bestDay 56 = .ok (.istore 4, 2) := by decide +kernel
theorem dX4_bestDay_58 : decode cX4_bestDay 58 = .ok (.bipush (-9), 2) := by decide +kernel
theorem dX4_bestDay_60 : decode cX4_bestDay 60 = .ok (.istore 5, 2) := by decide +kernel
theorem dX4_bestDay_62 : decode cX4_bestDay 62 = .ok (.iconst 0, 1) := by decide +kernel
theorem dX4_bestDay_63 : decode cX4_bestDay 63 = .ok (.istore 6, 2) := by decide +kernel
theorem dX4_bestDay_65 : decode cX4_bestDay 65 = .ok (.aload_n 2, 1) := by decide +kernel
theorem dX4_bestDay_66 : decode cX4_bestDay 66 = .ok (.getfield 48, 3) := by decide +kernel
theorem dX4_bestDay_69 : decode cX4_bestDay 69 = .ok (.istore 7, 2) := by decide +kernel
theorem dX4_bestDay_71 : decode cX4_bestDay 71 = .ok (.iload 7, 2) := by decide +kernel
theorem dX4_bestDay_73 : decode cX4_bestDay 73 = .ok (.aload_n 2, 1) := by decide +kernel
theorem dX4_bestDay_74 : decode cX4_bestDay 74 = .ok (.getfield 54, 3) := by decide +kernel
theorem dX4_bestDay_77 : decode cX4_bestDay 77 = .ok (.if_icmp .gt 117, 3) := by decide +kernel
theorem dX4_bestDay_80 : decode cX4_bestDay 80 = .ok (.iload 7, 2) := by decide +kernel
theorem dX4_bestDay_82 : decode cX4_bestDay 82 = .ok (.iload 4, 2) := by decide +kernel
theorem dX4_bestDay_84 : decode cX4_bestDay 84 = .ok (.iadd, 1) := by decide +kernel
theorem dX4_bestDay_85 : decode cX4_bestDay 85 = .ok (.sipush 999, 3) := by decide +kernel
theorem dX4_bestDay_88 : decode cX4_bestDay 88 = .ok (.if_icmp .gt 106, 3) := by decide +kernel
theorem dX4_bestDay_91 : decode cX4_bestDay 91 = .ok (.aload_n 2, 1) := by decide +kernel
theorem dX4_bestDay_92 : decode cX4_bestDay 92 = .ok (.getfield 123, 3) := by decide +kernel
theorem dX4_bestDay_95 : decode cX4_bestDay 95 = .ok (.iload_n 1, 1) := by decide +kernel
theorem dX4_bestDay_96 : decode cX4_bestDay 96 = .ok (.iload 7, 2) := by decide +kernel
theorem dX4_bestDay_98 : decode cX4_bestDay 98 = .ok (.iastore, 1) := by decide +kernel
theorem dX4_bestDay_99 : decode cX4_bestDay 99 = .ok (.aload_n 2, 1) := by decide +kernel
theorem dX4_bestDay_100 : decode cX4_bestDay 100 = .ok (.getfield 127, 3) := by decide +kernel
theorem dX4_bestDay_103 : decode cX4_bestDay 103 = .ok (.iload_n 1, 1) := by decide +kernel
theorem dX4_bestDay_104 : decode cX4_bestDay 104 = .ok (.iload 7, 2) := by decide +kernel
theorem dX4_bestDay_106 : decode cX4_bestDay 106 = .ok (.iload 4, 2) := by decide +kernel
theorem dX4_bestDay_108 : decode cX4_bestDay 108 = .ok (.iadd, 1) := by decide +kernel
theorem dX4_bestDay_109 : decode cX4_bestDay 109 = .ok (.iastore, 1) := by decide +kernel
theorem dX4_bestDay_110 : decode cX4_bestDay 110 = .ok (.aload_n 0, 1) := by decide +kernel
theorem dX4_bestDay_111 : decode cX4_bestDay 111 = .ok (.getfield 16, 3) := by decide +kernel
theorem dX4_bestDay_114 : decode cX4_bestDay 114 = .ok (.invokevirtual 33, 3) := by decide +kernel
theorem dX4_bestDay_117 : decode cX4_bestDay 117 = .ok (.aload_n 0, 1) := by decide +kernel
theorem dX4_bestDay_118 : decode cX4_bestDay 118 = .ok (.getfield 16, 3) := by decide +kernel
theorem dX4_bestDay_121 : decode cX4_bestDay 121 = .ok (.aload_n 2, 1) := by decide +kernel
theorem dX4_bestDay_122 : decode cX4_bestDay 122 = .ok (.getfield 67, 3) := by decide +kernel
theorem dX4_bestDay_125 : decode cX4_bestDay 125 = .ok (.invokevirtual 185, 3) := by decide +kernel
theorem dX4_bestDay_128 : decode cX4_bestDay 128 = .ok (.istore 8, 2) := by decide +kernel
theorem dX4_bestDay_130 : decode cX4_bestDay 130 = .ok (.iload 7, 2) := by decide +kernel
theorem dX4_bestDay_132 : decode cX4_bestDay 132 = .ok (.iload_n 3, 1) := by decide +kernel
theorem dX4_bestDay_133 : decode cX4_bestDay 133 = .ok (.isub, 1) := by decide +kernel
theorem dX4_bestDay_134 : decode cX4_bestDay 134 = .ok (.invokestatic 192, 3) := by decide +kernel
theorem dX4_bestDay_137 : decode cX4_bestDay 137 = .ok (.iload 5, 2) := by decide +kernel
theorem dX4_bestDay_139 : decode cX4_bestDay 139 = .ok (.iload_n 3, 1) := by decide +kernel
theorem dX4_bestDay_140 : decode cX4_bestDay 140 = .ok (.isub, 1) := by decide +kernel
theorem dX4_bestDay_141 : decode cX4_bestDay 141 = .ok (.invokestatic 192, 3) := by decide +kernel
theorem dX4_bestDay_144 : decode cX4_bestDay 144 = .ok (.if_icmp .ge 7, 3) := by decide +kernel
theorem dX4_bestDay_147 : decode cX4_bestDay 147 = .ok (.iconst 1, 1) := by decide +kernel
theorem dX4_bestDay_148 : decode cX4_bestDay 148 = .ok (.goto 4, 3) := by decide +kernel
theorem dX4_bestDay_151 : decode cX4_bestDay 151 = .ok (.iconst 0, 1) := by decide +kernel
theorem dX4_bestDay_152 : decode cX4_bestDay 152 = .ok (.istore 9, 2) := by decide +kernel
theorem dX4_bestDay_154 : decode cX4_bestDay 154 = .ok (.iload 5, 2) := by decide +kernel
theorem dX4_bestDay_156 : decode cX4_bestDay 156 = .ok (.bipush (-9), 2) := by decide +kernel
theorem dX4_bestDay_158 : decode cX4_bestDay 158 = .ok (.if_icmp .eq 22, 3) := by decide +kernel
theorem dX4_bestDay_161 : decode cX4_bestDay 161 = .ok (.iload 8, 2) := by decide +kernel
theorem dX4_bestDay_163 : decode cX4_bestDay 163 = .ok (.iload 6, 2) := by decide +kernel
theorem dX4_bestDay_165 : decode cX4_bestDay 165 = .ok (.if_icmp .lt 15, 3) := by decide +kernel
theorem dX4_bestDay_168 : decode cX4_bestDay 168 = .ok (.iload 8, 2) := by decide +kernel
theorem dX4_bestDay_170 : decode cX4_bestDay 170 = .ok (.iload 6, 2) := by decide +kernel
theorem dX4_bestDay_172 : decode cX4_bestDay 172 = .ok (.if_icmp .ne 16, 3) := by decide +kernel
theorem dX4_bestDay_175 : decode cX4_bestDay 175 = .ok (.iload 9, 2) := by decide +kernel
theorem dX4_bestDay_177 : decode cX4_bestDay 177 = .ok (.ifCond .eq 11, 3) := by decide +kernel
theorem dX4_bestDay_180 : decode cX4_bestDay 180 = .ok (.iload 7, 2) := by decide +kernel
theorem dX4_bestDay_182 : decode cX4_bestDay 182 = .ok (.istore 5, 2) := by decide +kernel
theorem dX4_bestDay_184 : decode cX4_bestDay 184 = .ok (.iload 8, 2) := by decide +kernel
theorem dX4_bestDay_186 : decode cX4_bestDay 186 = .ok (.istore 6, 2) := by decide +kernel
theorem dX4_bestDay_188 : decode cX4_bestDay 188 = .ok (.iinc 7 1, 3) := by decide +kernel
theorem dX4_bestDay_191 : decode cX4_bestDay 191 = .ok (.goto (-120), 3) := by decide +kernel
theorem dX4_bestDay_194 : decode cX4_bestDay 194 = .ok (.iload 5, 2) := by decide +kernel
theorem dX4_bestDay_196 : decode cX4_bestDay 196 = .ok (.ireturn, 1) := by decide +kernel
theorem dX4_told_0 : decode cX4_told 0 = .ok (.iload_n 1, 1) := by decide +kernel
theorem dX4_told_1 : decode cX4_told 1 = .ok (.tableswitch 190 0 11 #[63, 74, 85, 96, 107, 115, 126, 137, 148, 156, 174, 182], 63) := by decide +kernel
theorem dX4_told_64 : decode cX4_told 64 = .ok (.aload_n 0, 1) := by decide +kernel
theorem dX4_told_65 : decode cX4_told 65 = .ok (.getfield 10, 3) := by decide +kernel
theorem dX4_told_68 : decode cX4_told 68 = .ok (.getfield 40, 3) := by decide +kernel
theorem dX4_told_71 : decode cX4_told 71 = .ok (.getfield 48, 3) := by decide +kernel
theorem dX4_told_74 : decode cX4_told 74 = .ok (.ireturn, 1) := by decide +kernel
theorem dX4_told_75 : decode cX4_told 75 = .ok (.aload_n 0, 1) := by decide +kernel
theorem dX4_told_76 : decode cX4_told 76 = .ok (.getfield 10, 3) := by decide +kernel
theorem dX4_told_79 : decode cX4_told 79 = .ok (.getfield 40, 3) := by decide +kernel
theorem dX4_told_82 : decode cX4_told 82 = .ok (.getfield 54, 3) := by decide +kernel
theorem dX4_told_85 : decode cX4_told 85 = .ok (.ireturn, 1) := by decide +kernel
theorem dX4_told_86 : decode cX4_told 86 = .ok (.aload_n 0, 1) := by decide +kernel
theorem dX4_told_87 : decode cX4_told 87 = .ok (.getfield 10, 3) := by decide +kernel
theorem dX4_told_90 : decode cX4_told 90 = .ok (.getfield 40, 3) := by decide +kernel
theorem dX4_told_93 : decode cX4_told 93 = .ok (.getfield 64, 3) := by decide +kernel
theorem dX4_told_96 : decode cX4_told 96 = .ok (.ireturn, 1) := by decide +kernel
theorem dX4_told_97 : decode cX4_told 97 = .ok (.aload_n 0, 1) := by decide +kernel
theorem dX4_told_98 : decode cX4_told 98 = .ok (.getfield 10, 3) := by decide +kernel
theorem dX4_told_101 : decode cX4_told 101 = .ok (.getfield 40, 3) := by decide +kernel
theorem dX4_told_104 : decode cX4_told 104 = .ok (.getfield 67, 3) := by decide +kernel
theorem dX4_told_107 : decode cX4_told 107 = .ok (.ireturn, 1) := by decide +kernel
theorem dX4_told_108 : decode cX4_told 108 = .ok (.aload_n 0, 1) := by decide +kernel
theorem dX4_told_109 : decode cX4_told 109 = .ok (.getfield 10, 3) := by decide +kernel
theorem dX4_told_112 : decode cX4_told 112 = .ok (.getfield 57, 3) := by decide +kernel
theorem dX4_told_115 : decode cX4_told 115 = .ok (.ireturn, 1) := by decide +kernel
theorem dX4_told_116 : decode cX4_told 116 = .ok (.aload_n 0, 1) := by decide +kernel
theorem dX4_told_117 : decode cX4_told 117 = .ok (.getfield 10, 3) := by decide +kernel
theorem dX4_told_120 : decode cX4_told 120 = .ok (.getfield 40, 3) := by decide +kernel
theorem dX4_told_123 : decode cX4_told 123 = .ok (.getfield 105, 3) := by decide +kernel
theorem dX4_told_126 : decode cX4_told 126 = .ok (.ireturn, 1) := by decide +kernel
theorem dX4_told_127 : decode cX4_told 127 = .ok (.aload_n 0, 1) := by decide +kernel
theorem dX4_told_128 : decode cX4_told 128 = .ok (.getfield 10, 3) := by decide +kernel
theorem dX4_told_131 : decode cX4_told 131 = .ok (.getfield 40, 3) := by decide +kernel
theorem dX4_told_134 : decode cX4_told 134 = .ok (.invokevirtual 195, 3) := by decide +kernel
theorem dX4_told_137 : decode cX4_told 137 = .ok (.ireturn, 1) := by decide +kernel
theorem dX4_told_138 : decode cX4_told 138 = .ok (.aload_n 0, 1) := by decide +kernel
theorem dX4_told_139 : decode cX4_told 139 = .ok (.getfield 10, 3) := by decide +kernel
theorem dX4_told_142 : decode cX4_told 142 = .ok (.getfield 40, 3) := by decide +kernel
theorem dX4_told_145 : decode cX4_told 145 = .ok (.invokevirtual 199, 3) := by decide +kernel
theorem dX4_told_148 : decode cX4_told 148 = .ok (.ireturn, 1) := by decide +kernel
theorem dX4_told_149 : decode cX4_told 149 = .ok (.aload_n 0, 1) := by decide +kernel
theorem dX4_told_150 : decode cX4_told 150 = .ok (.getfield 10, 3) := by decide +kernel
theorem dX4_told_153 : decode cX4_told 153 = .ok (.invokevirtual 202, 3) := by decide +kernel
theorem dX4_told_156 : decode cX4_told 156 = .ok (.ireturn, 1) := by decide +kernel
theorem dX4_told_157 : decode cX4_told 157 = .ok (.aload_n 0, 1) := by decide +kernel
theorem dX4_told_158 : decode cX4_told 158 = .ok (.getfield 10, 3) := by decide +kernel
theorem dX4_told_161 : decode cX4_told 161 = .ok (.aload_n 0, 1) := by decide +kernel
theorem dX4_told_162 : decode cX4_told 162 = .ok (.getfield 10, 3) := by decide +kernel
theorem dX4_told_165 : decode cX4_told 165 = .ok (.getfield 40, 3) := by decide +kernel
theorem dX4_told_168 : decode cX4_told 168 = .ok (.getfield 67, 3) := by decide +kernel
theorem dX4_told_171 : decode cX4_told 171 = .ok (.invokevirtual 185, 3) := by decide +kernel
theorem dX4_told_174 : decode cX4_told 174 = .ok (.ireturn, 1) := by decide +kernel
theorem dX4_told_175 : decode cX4_told 175 = .ok (.aload_n 0, 1) := by decide +kernel
theorem dX4_told_176 : decode cX4_told 176 = .ok (.getfield 29, 3) := by decide +kernel
theorem dX4_told_179 : decode cX4_told 179 = .ok (.getfield 91, 3) := by decide +kernel
theorem dX4_told_182 : decode cX4_told 182 = .ok (.ireturn, 1) := by decide +kernel
theorem dX4_told_183 : decode cX4_told 183 = .ok (.aload_n 0, 1) := by decide +kernel
theorem dX4_told_184 : decode cX4_told 184 = .ok (.getfield 22, 3) := by decide +kernel
theorem dX4_told_187 : decode cX4_told 187 = .ok (.getfield 205, 3) := by decide +kernel
theorem dX4_told_190 : decode cX4_told 190 = .ok (.ireturn, 1) := by decide +kernel
theorem dX4_told_191 : decode cX4_told 191 = .ok (.iconst (-1), 1) := by decide +kernel
theorem dX4_told_192 : decode cX4_told 192 = .ok (.ireturn, 1) := by decide +kernel
theorem dX4_undo_0 : decode cX4_undo 0 = .ok (.aload_n 0, 1) := by decide +kernel
theorem dX4_undo_1 : decode cX4_undo 1 = .ok (.getfield 22, 3) := by decide +kernel
theorem dX4_undo_4 : decode cX4_undo 4 = .ok (.getfield 205, 3) := by decide +kernel
theorem dX4_undo_7 : decode cX4_undo 7 = .ok (.ifCond .gt 6, 3) := by decide +kernel
theorem dX4_undo_10 : decode cX4_undo 10 = .ok (.bipush (-2), 2) := by decide +kernel
theorem dX4_undo_12 : decode cX4_undo 12 = .ok (.ireturn, 1) := by decide +kernel
theorem dX4_undo_13 : decode cX4_undo 13 = .ok (.aload_n 0, 1) := by decide +kernel
theorem dX4_undo_14 : decode cX4_undo 14 = .ok (.getfield 22, 3) := by decide +kernel
theorem dX4_undo_17 : decode cX4_undo 17 = .ok (.aload_n 0, 1) := by decide +kernel
theorem dX4_undo_18 : decode cX4_undo 18 = .ok (.getfield 10, 3) := by decide +kernel
theorem dX4_undo_21 : decode cX4_undo 21 = .ok (.getfield 40, 3) := by decide +kernel
theorem dX4_undo_24 : decode cX4_undo 24 = .ok (.invokevirtual 206, 3) := by decide +kernel
theorem dX4_undo_27 : decode cX4_undo 27 = .ok (.aload_n 0, 1) := by decide +kernel
theorem dX4_undo_28 : decode cX4_undo 28 = .ok (.getfield 10, 3) := by decide +kernel
theorem dX4_undo_31 : decode cX4_undo 31 = .ok (.invokevirtual 33, 3) := by decide +kernel
theorem dX4_undo_34 : decode cX4_undo 34 = .ok (.aload_n 0, 1) := by decide +kernel
theorem dX4_undo_35 : decode cX4_undo 35 = .ok (.getfield 22, 3) := by decide +kernel
theorem dX4_undo_38 : decode cX4_undo 38 = .ok (.getfield 205, 3) := by decide +kernel
theorem dX4_undo_41 : decode cX4_undo 41 = .ok (.ireturn, 1) := by decide +kernel
theorem dX4_isEntry_0 : decode cX4_isEntry 0 = .ok (.iload_n 1, 1) := by decide +kernel
theorem dX4_isEntry_1 : decode cX4_isEntry 1 = .ok (.iconst 0, 1) := by decide +kernel
theorem dX4_isEntry_2 : decode cX4_isEntry 2 = .ok (.aload_n 0, 1) := by decide +kernel
theorem dX4_isEntry_3 : decode cX4_isEntry 3 = .ok (.getfield 10, 3) := by decide +kernel
theorem dX4_isEntry_6 : decode cX4_isEntry 6 = .ok (.getfield 40, 3) := by decide +kernel
theorem dX4_isEntry_9 : decode cX4_isEntry 9 = .ok (.getfield 105, 3) := by decide +kernel
theorem dX4_isEntry_12 : decode cX4_isEntry 12 = .ok (.iconst 1, 1) := by decide +kernel
theorem dX4_isEntry_13 : decode cX4_isEntry 13 = .ok (.isub, 1) := by decide +kernel
theorem dX4_isEntry_14 : decode cX4_isEntry 14 = .ok (.invokestatic 60, 3) := by decide +kernel
theorem dX4_isEntry_17 : decode cX4_isEntry 17 = .ok (.ireturn, 1) := by decide +kernel
theorem dX4_isOnPage_0 : decode cX4_isOnPage 0 = .ok (.iload_n 1, 1) := by decide +kernel
theorem dX4_isOnPage_1 : decode cX4_isOnPage 1 = .ok (.aload_n 0, 1) := by decide +kernel
theorem dX4_isOnPage_2 : decode cX4_isOnPage 2 = .ok (.getfield 10, 3) := by decide +kernel
theorem dX4_isOnPage_5 : decode cX4_isOnPage 5 = .ok (.getfield 40, 3) := by decide +kernel
theorem dX4_isOnPage_8 : decode cX4_isOnPage 8 = .ok (.getfield 48, 3) := by decide +kernel
theorem dX4_isOnPage_11 : decode cX4_isOnPage 11 = .ok (.aload_n 0, 1) := by decide +kernel
theorem dX4_isOnPage_12 : decode cX4_isOnPage 12 = .ok (.getfield 10, 3) := by decide +kernel
theorem dX4_isOnPage_15 : decode cX4_isOnPage 15 = .ok (.getfield 40, 3) := by decide +kernel
theorem dX4_isOnPage_18 : decode cX4_isOnPage 18 = .ok (.getfield 54, 3) := by decide +kernel
theorem dX4_isOnPage_21 : decode cX4_isOnPage 21 = .ok (.invokestatic 60, 3) := by decide +kernel
theorem dX4_isOnPage_24 : decode cX4_isOnPage 24 = .ok (.ireturn, 1) := by decide +kernel
theorem dX4_isDay_0 : decode cX4_isDay 0 = .ok (.iload_n 0, 1) := by decide +kernel
theorem dX4_isDay_1 : decode cX4_isDay 1 = .ok (.iconst 0, 1) := by decide +kernel
theorem dX4_isDay_2 : decode cX4_isDay 2 = .ok (.sipush 999, 3) := by decide +kernel
theorem dX4_isDay_5 : decode cX4_isDay 5 = .ok (.invokestatic 60, 3) := by decide +kernel
theorem dX4_isDay_8 : decode cX4_isDay 8 = .ok (.ireturn, 1) := by decide +kernel
theorem dX4_isTime_0 : decode cX4_isTime 0 = .ok (.iload_n 0, 1) := by decide +kernel
theorem dX4_isTime_1 : decode cX4_isTime 1 = .ok (.bipush (-9), 2) := by decide +kernel
theorem dX4_isTime_3 : decode cX4_isTime 3 = .ok (.if_icmp .eq 14, 3) := by decide +kernel
theorem dX4_isTime_6 : decode cX4_isTime 6 = .ok (.iload_n 0, 1) := by decide +kernel
theorem dX4_isTime_7 : decode cX4_isTime 7 = .ok (.iconst 0, 1) := by decide +kernel
theorem dX4_isTime_8 : decode cX4_isTime 8 = .ok (.sipush 1439, 3) := by decide +kernel
theorem dX4_isTime_11 : decode cX4_isTime 11 = .ok (.invokestatic 60, 3) := by decide +kernel
theorem dX4_isTime_14 : decode cX4_isTime 14 = .ok (.ifCond .eq 7, 3) := by decide +kernel
theorem dX4_isTime_17 : decode cX4_isTime 17 = .ok (.iconst 1, 1) := by decide +kernel
theorem dX4_isTime_18 : decode cX4_isTime 18 = .ok (.goto 4, 3) := by decide +kernel
theorem dX4_isTime_21 : decode cX4_isTime 21 = .ok (.iconst 0, 1) := by decide +kernel
theorem dX4_isTime_22 : decode cX4_isTime 22 = .ok (.ireturn, 1) := by decide +kernel
theorem dX4_isRank_0 : decode cX4_isRank 0 = .ok (.iload_n 0, 1) := by decide +kernel
theorem dX4_isRank_1 : decode cX4_isRank 1 = .ok (.iconst 0, 1) := by decide +kernel
theorem dX4_isRank_2 : decode cX4_isRank 2 = .ok (.bipush 9, 2) := by decide +kernel
theorem dX4_isRank_4 : decode cX4_isRank 4 = .ok (.invokestatic 60, 3) := by decide +kernel
theorem dX4_isRank_7 : decode cX4_isRank 7 = .ok (.ireturn, 1) := by decide +kernel
theorem dX4_isWithin_0 : decode cX4_isWithin 0 = .ok (.iload_n 0, 1) := by decide +kernel
theorem dX4_isWithin_1 : decode cX4_isWithin 1 = .ok (.iload_n 1, 1) := by decide +kernel
theorem dX4_isWithin_2 : decode cX4_isWithin 2 = .ok (.if_icmp .lt 12, 3) := by decide +kernel
theorem dX4_isWithin_5 : decode cX4_isWithin 5 = .ok (.iload_n 0, 1) := by decide +kernel
theorem dX4_isWithin_6 : decode cX4_isWithin 6 = .ok (.iload_n 2, 1) := by decide +kernel
theorem dX4_isWithin_7 : decode cX4_isWithin 7 = .ok (.if_icmp .gt 7, 3) := by decide +kernel
theorem dX4_isWithin_10 : decode cX4_isWithin 10 = .ok (.iconst 1, 1) := by decide +kernel
theorem dX4_isWithin_11 : decode cX4_isWithin 11 = .ok (.goto 4, 3) := by decide +kernel
theorem dX4_isWithin_14 : decode cX4_isWithin 14 = .ok (.iconst 0, 1) := by decide +kernel
theorem dX4_isWithin_15 : decode cX4_isWithin 15 = .ok (.ireturn, 1) := by decide +kernel
theorem dX4_asNumber_0 : decode cX4_asNumber 0 = .ok (.iload_n 0, 1) := by decide +kernel
theorem dX4_asNumber_1 : decode cX4_asNumber 1 = .ok (.ifCond .eq 7, 3) := by decide +kernel
theorem dX4_asNumber_4 : decode cX4_asNumber 4 = .ok (.iconst 1, 1) := by decide +kernel
theorem dX4_asNumber_5 : decode cX4_asNumber 5 = .ok (.goto 4, 3) := by decide +kernel
theorem dX4_asNumber_8 : decode cX4_asNumber 8 = .ok (.iconst 0, 1) := by decide +kernel
theorem dX4_asNumber_9 : decode cX4_asNumber 9 = .ok (.ireturn, 1) := by decide +kernel
theorem dJ6_bitCount_0f7a4_0 : decode cJ6_bitCount_0f7a4 0 = .ok (.iload_n 0, 1) := by decide +kernel
theorem dJ6_bitCount_0f7a4_1 : decode cJ6_bitCount_0f7a4 1 = .ok (.iload_n 0, 1) := by decide +kernel
theorem dJ6_bitCount_0f7a4_2 : decode cJ6_bitCount_0f7a4 2 = .ok (.iconst 1, 1) := by decide +kernel
theorem dJ6_bitCount_0f7a4_3 : decode cJ6_bitCount_0f7a4 3 = .ok (.iushr, 1) := by decide +kernel
theorem dJ6_bitCount_0f7a4_4 : decode cJ6_bitCount_0f7a4 4 = .ok (.ldc_w 265, 3) := by decide +kernel
theorem dJ6_bitCount_0f7a4_7 : decode cJ6_bitCount_0f7a4 7 = .ok (.iand, 1) := by decide +kernel
theorem dJ6_bitCount_0f7a4_8 : decode cJ6_bitCount_0f7a4 8 = .ok (.isub, 1) := by decide +kernel
theorem dJ6_bitCount_0f7a4_9 : decode cJ6_bitCount_0f7a4 9 = .ok (.istore_n 0, 1) := by decide +kernel
theorem dJ6_bitCount_0f7a4_10 : decode cJ6_bitCount_0f7a4 10 = .ok (.iload_n 0, 1) := by decide +kernel
theorem dJ6_bitCount_0f7a4_11 : decode cJ6_bitCount_0f7a4 11 = .ok (.ldc_w 266, 3) := by decide +kernel
theorem dJ6_bitCount_0f7a4_14 : decode cJ6_bitCount_0f7a4 14 = .ok (.iand, 1) := by decide +kernel
theorem dJ6_bitCount_0f7a4_15 : decode cJ6_bitCount_0f7a4 15 = .ok (.iload_n 0, 1) := by decide +kernel
theorem dJ6_bitCount_0f7a4_16 : decode cJ6_bitCount_0f7a4 16 = .ok (.iconst 2, 1) := by decide +kernel
theorem dJ6_bitCount_0f7a4_17 : decode cJ6_bitCount_0f7a4 17 = .ok (.iushr, 1) := by decide +kernel
theorem dJ6_bitCount_0f7a4_18 : decode cJ6_bitCount_0f7a4 18 = .ok (.ldc_w 266, 3) := by decide +kernel
theorem dJ6_bitCount_0f7a4_21 : decode cJ6_bitCount_0f7a4 21 = .ok (.iand, 1) := by decide +kernel
theorem dJ6_bitCount_0f7a4_22 : decode cJ6_bitCount_0f7a4 22 = .ok (.iadd, 1) := by decide +kernel
theorem dJ6_bitCount_0f7a4_23 : decode cJ6_bitCount_0f7a4 23 = .ok (.istore_n 0, 1) := by decide +kernel
theorem dJ6_bitCount_0f7a4_24 : decode cJ6_bitCount_0f7a4 24 = .ok (.iload_n 0, 1) := by decide +kernel
theorem dJ6_bitCount_0f7a4_25 : decode cJ6_bitCount_0f7a4 25 = .ok (.iload_n 0, 1) := by decide +kernel
theorem dJ6_bitCount_0f7a4_26 : decode cJ6_bitCount_0f7a4 26 = .ok (.iconst 4, 1) := by decide +kernel
theorem dJ6_bitCount_0f7a4_27 : decode cJ6_bitCount_0f7a4 27 = .ok (.iushr, 1) := by decide +kernel
theorem dJ6_bitCount_0f7a4_28 : decode cJ6_bitCount_0f7a4 28 = .ok (.iadd, 1) := by decide +kernel
theorem dJ6_bitCount_0f7a4_29 : decode cJ6_bitCount_0f7a4 29 = .ok (.ldc_w 267, 3) := by decide +kernel
theorem dJ6_bitCount_0f7a4_32 : decode cJ6_bitCount_0f7a4 32 = .ok (.iand, 1) := by decide +kernel
theorem dJ6_bitCount_0f7a4_33 : decode cJ6_bitCount_0f7a4 33 = .ok (.istore_n 0, 1) := by decide +kernel
theorem dJ6_bitCount_0f7a4_34 : decode cJ6_bitCount_0f7a4 34 = .ok (.iload_n 0, 1) := by decide +kernel
theorem dJ6_bitCount_0f7a4_35 : decode cJ6_bitCount_0f7a4 35 = .ok (.iload_n 0, 1) := by decide +kernel
theorem dJ6_bitCount_0f7a4_36 : decode cJ6_bitCount_0f7a4 36 = .ok (.bipush 8, 2) := by decide +kernel
theorem dJ6_bitCount_0f7a4_38 : decode cJ6_bitCount_0f7a4 38 = .ok (.iushr, 1) := by decide +kernel
theorem dJ6_bitCount_0f7a4_39 : decode cJ6_bitCount_0f7a4 39 = .ok (.iadd, 1) := by decide +kernel
theorem dJ6_bitCount_0f7a4_40 : decode cJ6_bitCount_0f7a4 40 = .ok (.istore_n 0, 1) := by decide +kernel
theorem dJ6_bitCount_0f7a4_41 : decode cJ6_bitCount_0f7a4 41 = .ok (.iload_n 0, 1) := by decide +kernel
theorem dJ6_bitCount_0f7a4_42 : decode cJ6_bitCount_0f7a4 42 = .ok (.iload_n 0, 1) := by decide +kernel
theorem dJ6_bitCount_0f7a4_43 : decode cJ6_bitCount_0f7a4 43 = .ok (.bipush 16, 2) := by decide +kernel
theorem dJ6_bitCount_0f7a4_45 : decode cJ6_bitCount_0f7a4 45 = .ok (.iushr, 1) := by decide +kernel
theorem dJ6_bitCount_0f7a4_46 : decode cJ6_bitCount_0f7a4 46 = .ok (.iadd, 1) := by decide +kernel
theorem dJ6_bitCount_0f7a4_47 : decode cJ6_bitCount_0f7a4 47 = .ok (.istore_n 0, 1) := by decide +kernel
theorem dJ6_bitCount_0f7a4_48 : decode cJ6_bitCount_0f7a4 48 = .ok (.iload_n 0, 1) := by decide +kernel
theorem dJ6_bitCount_0f7a4_49 : decode cJ6_bitCount_0f7a4 49 = .ok (.bipush 63, 2) := by decide +kernel
theorem dJ6_bitCount_0f7a4_51 : decode cJ6_bitCount_0f7a4 51 = .ok (.iand, 1) := by decide +kernel
theorem dJ6_bitCount_0f7a4_52 : decode cJ6_bitCount_0f7a4 52 = .ok (.ireturn, 1) := by decide +kernel
theorem dJ9_abs_0f7a4_0 : decode cJ9_abs_0f7a4 0 = .ok (.iload_n 0, 1) := by decide +kernel
theorem dJ9_abs_0f7a4_1 : decode cJ9_abs_0f7a4 1 = .ok (.ifCond .ge 8, 3) := by decide +kernel
theorem dJ9_abs_0f7a4_4 : decode cJ9_abs_0f7a4 4 = .ok (.iload_n 0, 1) := by decide +kernel
theorem dJ9_abs_0f7a4_5 : decode cJ9_abs_0f7a4 5 = .ok (.ineg, 1) := by decide +kernel
theorem dJ9_abs_0f7a4_6 : decode cJ9_abs_0f7a4 6 = .ok (.goto 4, 3) := by decide +kernel
theorem dJ9_abs_0f7a4_9 : decode cJ9_abs_0f7a4 9 = .ok (.iload_n 0, 1) := by decide +kernel
theorem dJ9_abs_0f7a4_10 : decode cJ9_abs_0f7a4 10 = .ok (.ireturn, 1) := by decide +kernel
theorem dJ9_max_7cf53_0 : decode cJ9_max_7cf53 0 = .ok (.iload_n 0, 1) := by decide +kernel
theorem dJ9_max_7cf53_1 : decode cJ9_max_7cf53 1 = .ok (.iload_n 1, 1) := by decide +kernel
theorem dJ9_max_7cf53_2 : decode cJ9_max_7cf53 2 = .ok (.if_icmp .lt 7, 3) := by decide +kernel
theorem dJ9_max_7cf53_5 : decode cJ9_max_7cf53 5 = .ok (.iload_n 0, 1) := by decide +kernel
theorem dJ9_max_7cf53_6 : decode cJ9_max_7cf53 6 = .ok (.goto 4, 3) := by decide +kernel
theorem dJ9_max_7cf53_9 : decode cJ9_max_7cf53 9 = .ok (.iload_n 1, 1) := by decide +kernel
theorem dJ9_max_7cf53_10 : decode cJ9_max_7cf53 10 = .ok (.ireturn, 1) := by decide +kernel
theorem dJ9_min_7cf53_0 : decode cJ9_min_7cf53 0 = .ok (.iload_n 0, 1) := by decide +kernel
theorem dJ9_min_7cf53_1 : decode cJ9_min_7cf53 1 = .ok (.iload_n 1, 1) := by decide +kernel
theorem dJ9_min_7cf53_2 : decode cJ9_min_7cf53 2 = .ok (.if_icmp .gt 7, 3) := by decide +kernel
theorem dJ9_min_7cf53_5 : decode cJ9_min_7cf53 5 = .ok (.iload_n 0, 1) := by decide +kernel
theorem dJ9_min_7cf53_6 : decode cJ9_min_7cf53 6 = .ok (.goto 4, 3) := by decide +kernel
theorem dJ9_min_7cf53_9 : decode cJ9_min_7cf53 9 = .ok (.iload_n 1, 1) := by decide +kernel
theorem dJ9_min_7cf53_10 : decode cJ9_min_7cf53 10 = .ok (.ireturn, 1) := by decide +kernel
theorem dL_cell_0 : decode cL_cell 0 = .ok (.iload_n 1, 1) := by decide +kernel
theorem dL_cell_1 : decode cL_cell 1 = .ok (.aload_n 0, 1) := by decide +kernel
theorem dL_cell_2 : decode cL_cell 2 = .ok (.arraylength, 1) := by decide +kernel
theorem dL_cell_3 : decode cL_cell 3 = .ok (.if_icmp .ge 9, 3) := by decide +kernel
theorem dL_cell_6 : decode cL_cell 6 = .ok (.aload_n 0, 1) := by decide +kernel
theorem dL_cell_7 : decode cL_cell 7 = .ok (.iload_n 1, 1) := by decide +kernel
theorem dL_cell_8 : decode cL_cell 8 = .ok (.iaload, 1) := by decide +kernel
theorem dL_cell_9 : decode cL_cell 9 = .ok (.goto 11, 3) := by decide +kernel
theorem dL_cell_12 : decode cL_cell 12 = .ok (.ldc 7, 2) := by decide +kernel
theorem dL_cell_14 : decode cL_cell 14 = .ok (.iload_n 1, 1) := by decide +kernel
theorem dL_cell_15 : decode cL_cell 15 = .ok (.imul, 1) := by decide +kernel
theorem dL_cell_16 : decode cL_cell 16 = .ok (.sipush 2003, 3) := by decide +kernel
theorem dL_cell_19 : decode cL_cell 19 = .ok (.iadd, 1) := by decide +kernel
theorem dL_cell_20 : decode cL_cell 20 = .ok (.ldc 8, 2) := by decide +kernel
theorem dL_cell_22 : decode cL_cell 22 = .ok (.iand, 1) := by decide +kernel
theorem dL_cell_23 : decode cL_cell 23 = .ok (.ireturn, 1) := by decide +kernel
theorem dL_sets_0 : decode cL_sets 0 = .ok (.aload_n 1, 1) := by decide +kernel
theorem dL_sets_1 : decode cL_sets 1 = .ok (.iconst 0, 1) := by decide +kernel
theorem dL_sets_2 : decode cL_sets 2 = .ok (.invokestatic 9, 3) := by decide +kernel
theorem dL_sets_5 : decode cL_sets 5 = .ok (.sipush 900, 3) := by decide +kernel
theorem dL_sets_8 : decode cL_sets 8 = .ok (.irem, 1) := by decide +kernel
theorem dL_sets_9 : decode cL_sets 9 = .ok (.istore_n 2, 1) := by decide +kernel
theorem dL_sets_10 : decode cL_sets 10 = .ok (.iload_n 2, 1) := by decide +kernel
theorem dL_sets_11 : decode cL_sets 11 = .ok (.aload_n 1, 1) := by decide +kernel
theorem dL_sets_12 : decode cL_sets 12 = .ok (.iconst 1, 1) := by decide +kernel
theorem dL_sets_13 : decode cL_sets 13 = .ok (.invokestatic 9, 3) := by decide +kernel
theorem dL_sets_16 : decode cL_sets 16 = .ok (.bipush 42, 2) := by decide +kernel
theorem dL_sets_18 : decode cL_sets 18 = .ok (.irem, 1) := by decide +kernel
theorem dL_sets_19 : decode cL_sets 19 = .ok (.iadd, 1) := by decide +kernel
theorem dL_sets_20 : decode cL_sets 20 = .ok (.istore_n 3, 1) := by decide +kernel
theorem dL_sets_21 : decode cL_sets 21 = .ok (.aload_n 0, 1) := by decide +kernel
theorem dL_sets_22 : decode cL_sets 22 = .ok (.aload_n 1, 1) := by decide +kernel
theorem dL_sets_23 : decode cL_sets 23 = .ok (.iconst 2, 1) := by decide +kernel
theorem dL_sets_24 : decode cL_sets 24 = .ok (.invokestatic 9, 3) := by decide +kernel
theorem dL_sets_27 : decode cL_sets 27 = .ok (.bipush 7, 2) := by decide +kernel
theorem dL_sets_29 : decode cL_sets 29 = .ok (.irem, 1) := by decide +kernel
theorem dL_sets_30 : decode cL_sets 30 = .ok (.invokevirtual 15, 3) := by decide +kernel
theorem dL_sets_33 : decode cL_sets 33 = .ok (.ifCond .le 34, 3) := by decide +kernel
theorem dL_sets_36 : decode cL_sets 36 = .ok (.aload_n 0, 1) := by decide +kernel
theorem dL_sets_37 : decode cL_sets 37 = .ok (.iload_n 2, 1) := by decide +kernel
theorem dL_sets_38 : decode cL_sets 38 = .ok (.iload_n 3, 1) := by decide +kernel
theorem dL_sets_39 : decode cL_sets 39 = .ok (.invokevirtual 21, 3) := by decide +kernel
theorem dL_sets_42 : decode cL_sets 42 = .ok (.ifCond .le 25, 3) := by decide +kernel
theorem dL_sets_45 : decode cL_sets 45 = .ok (.aload_n 0, 1) := by decide +kernel
theorem dL_sets_46 : decode cL_sets 46 = .ok (.iconst 1, 1) := by decide +kernel
theorem dL_sets_47 : decode cL_sets 47 = .ok (.aload_n 1, 1) := by decide +kernel
theorem dL_sets_48 : decode cL_sets 48 = .ok (.iconst 3, 1) := by decide +kernel
theorem dL_sets_49 : decode cL_sets 49 = .ok (.invokestatic 9, 3) := by decide +kernel
theorem dL_sets_52 : decode cL_sets 52 = .ok (.bipush 7, 2) := by decide +kernel
theorem dL_sets_54 : decode cL_sets 54 = .ok (.irem, 1) := by decide +kernel
theorem dL_sets_55 : decode cL_sets 55 = .ok (.iadd, 1) := by decide +kernel
theorem dL_sets_56 : decode cL_sets 56 = .ok (.invokevirtual 25, 3) := by decide +kernel
theorem dL_sets_59 : decode cL_sets 59 = .ok (.iconst 4, 1) := by decide +kernel
theorem dL_sets_60 : decode cL_sets 60 = .ok (.if_icmp .ne 7, 3) := by decide +kernel
theorem dL_sets_63 : decode cL_sets 63 = .ok (.iconst 1, 1) := by decide +kernel
theorem dL_sets_64 : decode cL_sets 64 = .ok (.goto 4, 3) := by decide +kernel
theorem dL_sets_67 : decode cL_sets 67 = .ok (.iconst 0, 1) := by decide +kernel
theorem dL_sets_68 : decode cL_sets 68 = .ok (.istore 4, 2) := by decide +kernel
theorem dL_sets_70 : decode cL_sets 70 = .ok (.iconst 1, 1) := by decide +kernel
theorem dL_sets_71 : decode cL_sets 71 = .ok (.aload_n 1, 1) := by decide +kernel
theorem dL_sets_72 : decode cL_sets 72 = .ok (.iconst 4, 1) := by decide +kernel
theorem dL_sets_73 : decode cL_sets 73 = .ok (.invokestatic 9, 3) := by decide +kernel
theorem dL_sets_76 : decode cL_sets 76 = .ok (.bipush 12, 2) := by decide +kernel
theorem dL_sets_78 : decode cL_sets 78 = .ok (.irem, 1) := by decide +kernel
theorem dL_sets_79 : decode cL_sets 79 = .ok (.iadd, 1) := by decide +kernel
theorem dL_sets_80 : decode cL_sets 80 = .ok (.istore 5, 2) := by decide +kernel
theorem dL_sets_82 : decode cL_sets 82 = .ok (.iconst 0, 1) := by decide +kernel
theorem dL_sets_83 : decode cL_sets 83 = .ok (.istore 6, 2) := by decide +kernel
theorem dL_sets_85 : decode cL_sets 85 = .ok (.iload 6, 2) := by decide +kernel
theorem dL_sets_87 : decode cL_sets 87 = .ok (.iload 5, 2) := by decide +kernel
theorem dL_sets_89 : decode cL_sets 89 = .ok (.if_icmp .ge 131, 3) := by decide +kernel
theorem dL_sets_92 : decode cL_sets 92 = .ok (.iload 4, 2) := by decide +kernel
theorem dL_sets_94 : decode cL_sets 94 = .ok (.ifCond .eq 126, 3) := by decide +kernel
theorem dL_sets_97 : decode cL_sets 97 = .ok (.aload_n 1, 1) := by decide +kernel
theorem dL_sets_98 : decode cL_sets 98 = .ok (.iconst 5, 1) := by decide +kernel
theorem dL_sets_99 : decode cL_sets 99 = .ok (.iload 6, 2) := by decide +kernel
theorem dL_sets_101 : decode cL_sets 101 = .ok (.iadd, 1) := by decide +kernel
theorem dL_sets_102 : decode cL_sets 102 = .ok (.invokestatic 9, 3) := by decide +kernel
theorem dL_sets_105 : decode cL_sets 105 = .ok (.istore 7, 2) := by decide +kernel
theorem dL_sets_107 : decode cL_sets 107 = .ok (.iload_n 2, 1) := by decide +kernel
theorem dL_sets_108 : decode cL_sets 108 = .ok (.iload 7, 2) := by decide +kernel
theorem dL_sets_110 : decode cL_sets 110 = .ok (.iload_n 3, 1) := by decide +kernel
theorem dL_sets_111 : decode cL_sets 111 = .ok (.iload_n 2, 1) := by decide +kernel
theorem dL_sets_112 : decode cL_sets 112 = .ok (.isub, 1) := by decide +kernel
theorem dL_sets_113 : decode cL_sets 113 = .ok (.bipush 9, 2) := by decide +kernel
theorem dL_sets_115 : decode cL_sets 115 = .ok (.iadd, 1) := by decide +kernel
theorem dL_sets_116 : decode cL_sets 116 = .ok (.irem, 1) := by decide +kernel
theorem dL_sets_117 : decode cL_sets 117 = .ok (.iadd, 1) := by decide +kernel
theorem dL_sets_118 : decode cL_sets 118 = .ok (.iconst 4, 1) := by decide +kernel
theorem dL_sets_119 : decode cL_sets 119 = .ok (.isub, 1) := by decide +kernel
theorem dL_sets_120 : decode cL_sets 120 = .ok (.istore 8, 2) := by decide +kernel
theorem dL_sets_122 : decode cL_sets 122 = .ok (.iload 8, 2) := by decide +kernel
theorem dL_sets_124 : decode cL_sets 124 = .ok (.ifCond .ge 7, 3) := by decide +kernel
theorem dL_sets_127 : decode cL_sets 127 = .ok (.iconst 0, 1) := by decide +kernel
theorem dL_sets_128 : decode cL_sets 128 = .ok (.goto 5, 3) := by decide +kernel
theorem dL_sets_131 : decode cL_sets 131 = .ok (.iload 8, 2) := by decide +kernel
theorem dL_sets_133 : decode cL_sets 133 = .ok (.istore 8, 2) := by decide +kernel
theorem dL_sets_135 : decode cL_sets 135 = .ok (.iload 8, 2) := by decide +kernel
theorem dL_sets_137 : decode cL_sets 137 = .ok (.iload 7, 2) := by decide +kernel
theorem dL_sets_139 : decode cL_sets 139 = .ok (.bipush 6, 2) := by decide +kernel
theorem dL_sets_141 : decode cL_sets 141 = .ok (.ishr, 1) := by decide +kernel
theorem dL_sets_142 : decode cL_sets 142 = .ok (.iconst 2, 1) := by decide +kernel
theorem dL_sets_143 : decode cL_sets 143 = .ok (.irem, 1) := by decide +kernel
theorem dL_sets_144 : decode cL_sets 144 = .ok (.ifCond .ne 7, 3) := by decide +kernel
theorem dL_sets_147 : decode cL_sets 147 = .ok (.iconst 0, 1) := by decide +kernel
theorem dL_sets_148 : decode cL_sets 148 = .ok (.goto 11, 3) := by decide +kernel
theorem dL_sets_151 : decode cL_sets 151 = .ok (.iload 7, 2) := by decide +kernel
theorem dL_sets_153 : decode cL_sets 153 = .ok (.bipush 7, 2) := by decide +kernel
theorem dL_sets_155 : decode cL_sets 155 = .ok (.ishr, 1) := by decide +kernel
theorem dL_sets_156 : decode cL_sets 156 = .ok (.bipush 12, 2) := by decide +kernel
theorem dL_sets_158 : decode cL_sets 158 = .ok (.irem, 1) := by decide +kernel
theorem dL_sets_159 : decode cL_sets 159 = .ok (.iadd, 1) := by decide +kernel
theorem dL_sets_160 : decode cL_sets 160 = .ok (.istore 9, 2) := by decide +kernel
theorem dL_sets_162 : decode cL_sets 162 = .ok (.aload_n 0, 1) := by decide +kernel
theorem dL_sets_163 : decode cL_sets 163 = .ok (.iload 8, 2) := by decide +kernel
theorem dL_sets_165 : decode cL_sets 165 = .ok (.iload 9, 2) := by decide +kernel
theorem dL_sets_167 : decode cL_sets 167 = .ok (.iload 7, 2) := by decide +kernel
theorem dL_sets_169 : decode cL_sets 169 = .ok (.bipush 11, 2) := by decide +kernel
theorem dL_sets_171 : decode cL_sets 171 = .ok (.ishr, 1) := by decide +kernel
theorem dL_sets_172 : decode cL_sets 172 = .ok (.iconst 2, 1) := by decide +kernel
theorem dL_sets_173 : decode cL_sets 173 = .ok (.irem, 1) := by decide +kernel
theorem dL_sets_174 : decode cL_sets 174 = .ok (.ifCond .ne 8, 3) := by decide +kernel
theorem dL_sets_177 : decode cL_sets 177 = .ok (.bipush (-9), 2) := by decide +kernel
theorem dL_sets_179 : decode cL_sets 179 = .ok (.goto 12, 3) := by decide +kernel
theorem dL_sets_182 : decode cL_sets 182 = .ok (.iload 7, 2) := by decide +kernel
theorem dL_sets_184 : decode cL_sets 184 = .ok (.bipush 12, 2) := by decide +kernel
theorem dL_sets_186 : decode cL_sets 186 = .ok (.ishr, 1) := by decide +kernel
theorem dL_sets_187 : decode cL_sets 187 = .ok (.sipush 1440, 3) := by decide +kernel
theorem dL_sets_190 : decode cL_sets 190 = .ok (.irem, 1) := by decide +kernel
theorem dL_sets_191 : decode cL_sets 191 = .ok (.iload 7, 2) := by decide +kernel
theorem dL_sets_193 : decode cL_sets 193 = .ok (.bipush 23, 2) := by decide +kernel
theorem dL_sets_195 : decode cL_sets 195 = .ok (.ishr, 1) := by decide +kernel
theorem dL_sets_196 : decode cL_sets 196 = .ok (.bipush 10, 2) := by decide +kernel
theorem dL_sets_198 : decode cL_sets 198 = .ok (.irem, 1) := by decide +kernel
theorem dL_sets_199 : decode cL_sets 199 = .ok (.invokevirtual 28, 3) := by decide +kernel
theorem dL_sets_202 : decode cL_sets 202 = .ok (.iload 6, 2) := by decide +kernel
theorem dL_sets_204 : decode cL_sets 204 = .ok (.if_icmp .ne 7, 3) := by decide +kernel
theorem dL_sets_207 : decode cL_sets 207 = .ok (.iconst 1, 1) := by decide +kernel
theorem dL_sets_208 : decode cL_sets 208 = .ok (.goto 4, 3) := by decide +kernel
theorem dL_sets_211 : decode cL_sets 211 = .ok (.iconst 0, 1) := by decide +kernel
theorem dL_sets_212 : decode cL_sets 212 = .ok (.istore 4, 2) := by decide +kernel
theorem dL_sets_214 : decode cL_sets 214 = .ok (.iinc 6 1, 3) := by decide +kernel
theorem dL_sets_217 : decode cL_sets 217 = .ok (.goto (-132), 3) := by decide +kernel
theorem dL_sets_220 : decode cL_sets 220 = .ok (.iload 4, 2) := by decide +kernel
theorem dL_sets_222 : decode cL_sets 222 = .ok (.ireturn, 1) := by decide +kernel
theorem dL_weeks_0 : decode cL_weeks 0 = .ok (.aload_n 0, 1) := by decide +kernel
theorem dL_weeks_1 : decode cL_weeks 1 = .ok (.iconst 0, 1) := by decide +kernel
theorem dL_weeks_2 : decode cL_weeks 2 = .ok (.invokevirtual 32, 3) := by decide +kernel
theorem dL_weeks_5 : decode cL_weeks 5 = .ok (.istore_n 1, 1) := by decide +kernel
theorem dL_weeks_6 : decode cL_weeks 6 = .ok (.iconst 0, 1) := by decide +kernel
theorem dL_weeks_7 : decode cL_weeks 7 = .ok (.istore_n 2, 1) := by decide +kernel
theorem dL_weeks_8 : decode cL_weeks 8 = .ok (.iload_n 2, 1) := by decide +kernel
theorem dL_weeks_9 : decode cL_weeks 9 = .ok (.aload_n 0, 1) := by decide +kernel
theorem dL_weeks_10 : decode cL_weeks 10 = .ok (.iconst 4, 1) := by decide +kernel
theorem dL_weeks_11 : decode cL_weeks 11 = .ok (.invokevirtual 32, 3) := by decide +kernel
theorem dL_weeks_14 : decode cL_weeks 14 = .ok (.if_icmp .ge 129, 3) := by decide +kernel
theorem dL_weeks_17 : decode cL_weeks 17 = .ok (.aload_n 0, 1) := by decide +kernel
theorem dL_weeks_18 : decode cL_weeks 18 = .ok (.iload_n 2, 1) := by decide +kernel
theorem dL_weeks_19 : decode cL_weeks 19 = .ok (.iconst 0, 1) := by decide +kernel
theorem dL_weeks_20 : decode cL_weeks 20 = .ok (.invokevirtual 35, 3) := by decide +kernel
theorem dL_weeks_23 : decode cL_weeks 23 = .ok (.iload_n 1, 1) := by decide +kernel
theorem dL_weeks_24 : decode cL_weeks 24 = .ok (.if_icmp .ne 42, 3) := by decide +kernel
theorem dL_weeks_27 : decode cL_weeks 27 = .ok (.aload_n 0, 1) := by decide +kernel
theorem dL_weeks_28 : decode cL_weeks 28 = .ok (.iload_n 2, 1) := by decide +kernel
theorem dL_weeks_29 : decode cL_weeks 29 = .ok (.iconst 1, 1) := by decide +kernel
theorem dL_weeks_30 : decode cL_weeks 30 = .ok (.invokevirtual 35, 3) := by decide +kernel
theorem dL_weeks_33 : decode cL_weeks 33 = .ok (.iload_n 1, 1) := by decide +kernel
theorem dL_weeks_34 : decode cL_weeks 34 = .ok (.if_icmp .lt 32, 3) := by decide +kernel
theorem dL_weeks_37 : decode cL_weeks 37 = .ok (.aload_n 0, 1) := by decide +kernel
theorem dL_weeks_38 : decode cL_weeks 38 = .ok (.iload_n 2, 1) := by decide +kernel
theorem dL_weeks_39 : decode cL_weeks 39 = .ok (.iconst 1, 1) := by decide +kernel
theorem dL_weeks_40 : decode cL_weeks 40 = .ok (.invokevirtual 35, 3) := by decide +kernel
theorem dL_weeks_43 : decode cL_weeks 43 = .ok (.iload_n 1, 1) := by decide +kernel
theorem dL_weeks_44 : decode cL_weeks 44 = .ok (.isub, 1) := by decide +kernel
theorem dL_weeks_45 : decode cL_weeks 45 = .ok (.bipush 6, 2) := by decide +kernel
theorem dL_weeks_47 : decode cL_weeks 47 = .ok (.if_icmp .gt 19, 3) := by decide +kernel
theorem dL_weeks_50 : decode cL_weeks 50 = .ok (.iload_n 2, 1) := by decide +kernel
theorem dL_weeks_51 : decode cL_weeks 51 = .ok (.ifCond .le 17, 3) := by decide +kernel
theorem dL_weeks_54 : decode cL_weeks 54 = .ok (.iload_n 1, 1) := by decide +kernel
theorem dL_weeks_55 : decode cL_weeks 55 = .ok (.bipush 7, 2) := by decide +kernel
theorem dL_weeks_57 : decode cL_weeks 57 = .ok (.irem, 1) := by decide +kernel
theorem dL_weeks_58 : decode cL_weeks 58 = .ok (.aload_n 0, 1) := by decide +kernel
theorem dL_weeks_59 : decode cL_weeks 59 = .ok (.iconst 2, 1) := by decide +kernel
theorem dL_weeks_60 : decode cL_weeks 60 = .ok (.invokevirtual 32, 3) := by decide +kernel
theorem dL_weeks_63 : decode cL_weeks 63 = .ok (.if_icmp .eq 5, 3) := by decide +kernel
theorem dL_weeks_66 : decode cL_weeks 66 = .ok (.iconst 0, 1) := by decide +kernel
theorem dL_weeks_67 : decode cL_weeks 67 = .ok (.ireturn, 1) := by decide +kernel
theorem dL_weeks_68 : decode cL_weeks 68 = .ok (.iload_n 1, 1) := by decide +kernel
theorem dL_weeks_69 : decode cL_weeks 69 = .ok (.istore_n 3, 1) := by decide +kernel
theorem dL_weeks_70 : decode cL_weeks 70 = .ok (.iload_n 3, 1) := by decide +kernel
theorem dL_weeks_71 : decode cL_weeks 71 = .ok (.aload_n 0, 1) := by decide +kernel
theorem dL_weeks_72 : decode cL_weeks 72 = .ok (.iload_n 2, 1) := by decide +kernel
theorem dL_weeks_73 : decode cL_weeks 73 = .ok (.iconst 1, 1) := by decide +kernel
theorem dL_weeks_74 : decode cL_weeks 74 = .ok (.invokevirtual 35, 3) := by decide +kernel
theorem dL_weeks_77 : decode cL_weeks 77 = .ok (.if_icmp .gt 51, 3) := by decide +kernel
theorem dL_weeks_80 : decode cL_weeks 80 = .ok (.aload_n 0, 1) := by decide +kernel
theorem dL_weeks_81 : decode cL_weeks 81 = .ok (.iload_n 3, 1) := by decide +kernel
theorem dL_weeks_82 : decode cL_weeks 82 = .ok (.iconst 0, 1) := by decide +kernel
theorem dL_weeks_83 : decode cL_weeks 83 = .ok (.invokevirtual 38, 3) := by decide +kernel
theorem dL_weeks_86 : decode cL_weeks 86 = .ok (.iload_n 2, 1) := by decide +kernel
theorem dL_weeks_87 : decode cL_weeks 87 = .ok (.if_icmp .ne 33, 3) := by decide +kernel
theorem dL_weeks_90 : decode cL_weeks 90 = .ok (.aload_n 0, 1) := by decide +kernel
theorem dL_weeks_91 : decode cL_weeks 91 = .ok (.iload_n 3, 1) := by decide +kernel
theorem dL_weeks_92 : decode cL_weeks 92 = .ok (.iconst 1, 1) := by decide +kernel
theorem dL_weeks_93 : decode cL_weeks 93 = .ok (.invokevirtual 38, 3) := by decide +kernel
theorem dL_weeks_96 : decode cL_weeks 96 = .ok (.iload_n 3, 1) := by decide +kernel
theorem dL_weeks_97 : decode cL_weeks 97 = .ok (.bipush 7, 2) := by decide +kernel
theorem dL_weeks_99 : decode cL_weeks 99 = .ok (.irem, 1) := by decide +kernel
theorem dL_weeks_100 : decode cL_weeks 100 = .ok (.if_icmp .ne 20, 3) := by decide +kernel
theorem dL_weeks_103 : decode cL_weeks 103 = .ok (.iload_n 3, 1) := by decide +kernel
theorem dL_weeks_104 : decode cL_weeks 104 = .ok (.iload_n 1, 1) := by decide +kernel
theorem dL_weeks_105 : decode cL_weeks 105 = .ok (.if_icmp .le 17, 3) := by decide +kernel
theorem dL_weeks_108 : decode cL_weeks 108 = .ok (.iload_n 3, 1) := by decide +kernel
theorem dL_weeks_109 : decode cL_weeks 109 = .ok (.bipush 7, 2) := by decide +kernel
theorem dL_weeks_111 : decode cL_weeks 111 = .ok (.irem, 1) := by decide +kernel
theorem dL_weeks_112 : decode cL_weeks 112 = .ok (.aload_n 0, 1) := by decide +kernel
theorem dL_weeks_113 : decode cL_weeks 113 = .ok (.iconst 2, 1) := by decide +kernel
theorem dL_weeks_114 : decode cL_weeks 114 = .ok (.invokevirtual 32, 3) := by decide +kernel
theorem dL_weeks_117 : decode cL_weeks 117 = .ok (.if_icmp .ne 5, 3) := by decide +kernel
theorem dL_weeks_120 : decode cL_weeks 120 = .ok (.iconst 0, 1) := by decide +kernel
theorem dL_weeks_121 : decode cL_weeks 121 = .ok (.ireturn, 1) := by decide +kernel
theorem dL_weeks_122 : decode cL_weeks 122 = .ok (.iinc 3 1, 3) := by decide +kernel
theorem dL_weeks_125 : decode cL_weeks 125 = .ok (.goto (-55), 3) := by decide +kernel
theorem dL_weeks_128 : decode cL_weeks 128 = .ok (.aload_n 0, 1) := by decide +kernel
theorem dL_weeks_129 : decode cL_weeks 129 = .ok (.iload_n 2, 1) := by decide +kernel
theorem dL_weeks_130 : decode cL_weeks 130 = .ok (.iconst 1, 1) := by decide +kernel
theorem dL_weeks_131 : decode cL_weeks 131 = .ok (.invokevirtual 35, 3) := by decide +kernel
theorem dL_weeks_134 : decode cL_weeks 134 = .ok (.iconst 1, 1) := by decide +kernel
theorem dL_weeks_135 : decode cL_weeks 135 = .ok (.iadd, 1) := by decide +kernel
theorem dL_weeks_136 : decode cL_weeks 136 = .ok (.istore_n 1, 1) := by decide +kernel
theorem dL_weeks_137 : decode cL_weeks 137 = .ok (.iinc 2 1, 3) := by decide +kernel
theorem dL_weeks_140 : decode cL_weeks 140 = .ok (.goto (-132), 3) := by decide +kernel
theorem dL_weeks_143 : decode cL_weeks 143 = .ok (.iload_n 1, 1) := by decide +kernel
theorem dL_weeks_144 : decode cL_weeks 144 = .ok (.aload_n 0, 1) := by decide +kernel
theorem dL_weeks_145 : decode cL_weeks 145 = .ok (.iconst 1, 1) := by decide +kernel
theorem dL_weeks_146 : decode cL_weeks 146 = .ok (.invokevirtual 32, 3) := by decide +kernel
theorem dL_weeks_149 : decode cL_weeks 149 = .ok (.iconst 1, 1) := by decide +kernel
theorem dL_weeks_150 : decode cL_weeks 150 = .ok (.iadd, 1) := by decide +kernel
theorem dL_weeks_151 : decode cL_weeks 151 = .ok (.if_icmp .ne 22, 3) := by decide +kernel
theorem dL_weeks_154 : decode cL_weeks 154 = .ok (.aload_n 0, 1) := by decide +kernel
theorem dL_weeks_155 : decode cL_weeks 155 = .ok (.aload_n 0, 1) := by decide +kernel
theorem dL_weeks_156 : decode cL_weeks 156 = .ok (.iconst 4, 1) := by decide +kernel
theorem dL_weeks_157 : decode cL_weeks 157 = .ok (.invokevirtual 32, 3) := by decide +kernel
theorem dL_weeks_160 : decode cL_weeks 160 = .ok (.iconst 0, 1) := by decide +kernel
theorem dL_weeks_161 : decode cL_weeks 161 = .ok (.invokevirtual 35, 3) := by decide +kernel
theorem dL_weeks_164 : decode cL_weeks 164 = .ok (.bipush (-9), 2) := by decide +kernel
theorem dL_weeks_166 : decode cL_weeks 166 = .ok (.if_icmp .ne 7, 3) := by decide +kernel
theorem dL_weeks_169 : decode cL_weeks 169 = .ok (.iconst 1, 1) := by decide +kernel
theorem dL_weeks_170 : decode cL_weeks 170 = .ok (.goto 4, 3) := by decide +kernel
theorem dL_weeks_173 : decode cL_weeks 173 = .ok (.iconst 0, 1) := by decide +kernel
theorem dL_weeks_174 : decode cL_weeks 174 = .ok (.ireturn, 1) := by decide +kernel
theorem dL_bars_0 : decode cL_bars 0 = .ok (.iconst 0, 1) := by decide +kernel
theorem dL_bars_1 : decode cL_bars 1 = .ok (.istore_n 1, 1) := by decide +kernel
theorem dL_bars_2 : decode cL_bars 2 = .ok (.iconst 0, 1) := by decide +kernel
theorem dL_bars_3 : decode cL_bars 3 = .ok (.istore_n 2, 1) := by decide +kernel
theorem dL_bars_4 : decode cL_bars 4 = .ok (.iconst 0, 1) := by decide +kernel
theorem dL_bars_5 : decode cL_bars 5 = .ok (.istore_n 3, 1) := by decide +kernel
theorem dL_bars_6 : decode cL_bars 6 = .ok (.iconst 0, 1) := by decide +kernel
theorem dL_bars_7 : decode cL_bars 7 = .ok (.istore 4, 2) := by decide +kernel
theorem dL_bars_9 : decode cL_bars 9 = .ok (.iload 4, 2) := by decide +kernel
theorem dL_bars_11 : decode cL_bars 11 = .ok (.aload_n 0, 1) := by decide +kernel
theorem dL_bars_12 : decode cL_bars 12 = .ok (.iconst 5, 1) := by decide +kernel
theorem dL_bars_13 : decode cL_bars 13 = .ok (.invokevirtual 32, 3) := by decide +kernel
theorem dL_bars_16 : decode cL_bars 16 = .ok (.if_icmp .ge 523, 3) := by decide +kernel
theorem dL_bars_19 : decode cL_bars 19 = .ok (.iconst 0, 1) := by decide +kernel
theorem dL_bars_20 : decode cL_bars 20 = .ok (.istore 5, 2) := by decide +kernel
theorem dL_bars_22 : decode cL_bars 22 = .ok (.iconst 0, 1) := by decide +kernel
theorem dL_bars_23 : decode cL_bars 23 = .ok (.istore 6, 2) := by decide +kernel
theorem dL_bars_25 : decode cL_bars 25 = .ok (.aload_n 0, 1) := by decide +kernel
theorem dL_bars_26 : decode cL_bars 26 = .ok (.iload 4, 2) := by decide +kernel
theorem dL_bars_28 : decode cL_bars 28 = .ok (.iconst 1, 1) := by decide +kernel
theorem dL_bars_29 : decode cL_bars 29 = .ok (.invokevirtual 41, 3) := by decide +kernel
theorem dL_bars_32 : decode cL_bars 32 = .ok (.aload_n 0, 1) := by decide +kernel
theorem dL_bars_33 : decode cL_bars 33 = .ok (.iload 4, 2) := by decide +kernel
theorem dL_bars_35 : decode cL_bars 35 = .ok (.iconst 0, 1) := by decide +kernel
theorem dL_bars_36 : decode cL_bars 36 = .ok (.invokevirtual 41, 3) := by decide +kernel
theorem dL_bars_39 : decode cL_bars 39 = .ok (.if_icmp .gt 15, 3) := by decide +kernel
theorem dL_bars_42 : decode cL_bars 42 = .ok (.aload_n 0, 1) := by decide +kernel
theorem dL_bars_43 : decode cL_bars 43 = .ok (.iload 4, 2) := by decide +kernel
theorem dL_bars_45 : decode cL_bars 45 = .ok (.iconst 2, 1) := by decide +kernel
theorem dL_bars_46 : decode cL_bars 46 = .ok (.invokevirtual 41, 3) := by decide +kernel
theorem dL_bars_49 : decode cL_bars 49 = .ok (.bipush (-9), 2) := by decide +kernel
theorem dL_bars_51 : decode cL_bars 51 = .ok (.if_icmp .ne 7, 3) := by decide +kernel
theorem dL_bars_54 : decode cL_bars 54 = .ok (.iconst 1, 1) := by decide +kernel
theorem dL_bars_55 : decode cL_bars 55 = .ok (.goto 4, 3) := by decide +kernel
theorem dL_bars_58 : decode cL_bars 58 = .ok (.iconst 0, 1) := by decide +kernel
theorem dL_bars_59 : decode cL_bars 59 = .ok (.istore 7, 2) := by decide +kernel
theorem dL_bars_61 : decode cL_bars 61 = .ok (.iconst 0, 1) := by decide +kernel
theorem dL_bars_62 : decode cL_bars 62 = .ok (.istore 8, 2) := by decide +kernel
theorem dL_bars_64 : decode cL_bars 64 = .ok (.iload 8, 2) := by decide +kernel
theorem dL_bars_66 : decode cL_bars 66 = .ok (.aload_n 0, 1) := by decide +kernel
theorem dL_bars_67 : decode cL_bars 67 = .ok (.iconst 4, 1) := by decide +kernel
theorem dL_bars_68 : decode cL_bars 68 = .ok (.invokevirtual 32, 3) := by decide +kernel
theorem dL_bars_71 : decode cL_bars 71 = .ok (.if_icmp .ge 292, 3) := by decide +kernel
theorem dL_bars_74 : decode cL_bars 74 = .ok (.aload_n 0, 1) := by decide +kernel
theorem dL_bars_75 : decode cL_bars 75 = .ok (.iload 4, 2) := by decide +kernel
theorem dL_bars_77 : decode cL_bars 77 = .ok (.iconst 0, 1) := by decide +kernel
theorem dL_bars_78 : decode cL_bars 78 = .ok (.invokevirtual 41, 3) := by decide +kernel
theorem dL_bars_81 : decode cL_bars 81 = .ok (.aload_n 0, 1) := by decide +kernel
theorem dL_bars_82 : decode cL_bars 82 = .ok (.iload 8, 2) := by decide +kernel
theorem dL_bars_84 : decode cL_bars 84 = .ok (.iconst 0, 1) := by decide +kernel
theorem dL_bars_85 : decode cL_bars 85 = .ok (.invokevirtual 35, 3) := by decide +kernel
theorem dL_bars_88 : decode cL_bars 88 = .ok (.if_icmp .le 13, 3) := by decide +kernel
theorem dL_bars_91 : decode cL_bars 91 = .ok (.aload_n 0, 1) := by decide +kernel
theorem dL_bars_92 : decode cL_bars 92 = .ok (.iload 4, 2) := by decide +kernel
theorem dL_bars_94 : decode cL_bars 94 = .ok (.iconst 0, 1) := by decide +kernel
theorem dL_bars_95 : decode cL_bars 95 = .ok (.invokevirtual 41, 3) := by decide +kernel
theorem dL_bars_98 : decode cL_bars 98 = .ok (.goto 10, 3) := by decide +kernel
theorem dL_bars_101 : decode cL_bars 101 = .ok (.aload_n 0, 1) := by decide +kernel
theorem dL_bars_102 : decode cL_bars 102 = .ok (.iload 8, 2) := by decide +kernel
theorem dL_bars_104 : decode cL_bars 104 = .ok (.iconst 0, 1) := by decide +kernel
theorem dL_bars_105 : decode cL_bars 105 = .ok (.invokevirtual 35, 3) := by decide +kernel
theorem dL_bars_108 : decode cL_bars 108 = .ok (.istore 9, 2) := by decide +kernel
theorem dL_bars_110 : decode cL_bars 110 = .ok (.aload_n 0, 1) := by decide +kernel
theorem dL_bars_111 : decode cL_bars 111 = .ok (.iload 4, 2) := by decide +kernel
theorem dL_bars_113 : decode cL_bars 113 = .ok (.iconst 1, 1) := by decide +kernel
theorem dL_bars_114 : decode cL_bars 114 = .ok (.invokevirtual 41, 3) := by decide +kernel
theorem dL_bars_117 : decode cL_bars 117 = .ok (.aload_n 0, 1) := by decide +kernel
theorem dL_bars_118 : decode cL_bars 118 = .ok (.iload 8, 2) := by decide +kernel
theorem dL_bars_120 : decode cL_bars 120 = .ok (.iconst 1, 1) := by decide +kernel
theorem dL_bars_121 : decode cL_bars 121 = .ok (.invokevirtual 35, 3) := by decide +kernel
theorem dL_bars_124 : decode cL_bars 124 = .ok (.if_icmp .ge 13, 3) := by decide +kernel
theorem dL_bars_127 : decode cL_bars 127 = .ok (.aload_n 0, 1) := by decide +kernel
theorem dL_bars_128 : decode cL_bars 128 = .ok (.iload 4, 2) := by decide +kernel
theorem dL_bars_130 : decode cL_bars 130 = .ok (.iconst 1, 1) := by decide +kernel
theorem dL_bars_131 : decode cL_bars 131 = .ok (.invokevirtual 41, 3) := by decide +kernel
theorem dL_bars_134 : decode cL_bars 134 = .ok (.goto 10, 3) := by decide +kernel
theorem dL_bars_137 : decode cL_bars 137 = .ok (.aload_n 0, 1) := by decide +kernel
theorem dL_bars_138 : decode cL_bars 138 = .ok (.iload 8, 2) := by decide +kernel
theorem dL_bars_140 : decode cL_bars 140 = .ok (.iconst 1, 1) := by decide +kernel
theorem dL_bars_141 : decode cL_bars 141 = .ok (.invokevirtual 35, 3) := by decide +kernel
theorem dL_bars_144 : decode cL_bars 144 = .ok (.istore 10, 2) := by decide +kernel
theorem dL_bars_146 : decode cL_bars 146 = .ok (.iload 7, 2) := by decide +kernel
theorem dL_bars_148 : decode cL_bars 148 = .ok (.ifCond .eq 10, 3) := by decide +kernel
theorem dL_bars_151 : decode cL_bars 151 = .ok (.iload 9, 2) := by decide +kernel
theorem dL_bars_153 : decode cL_bars 153 = .ok (.iload 10, 2) := by decide +kernel
theorem dL_bars_155 : decode cL_bars 155 = .ok (.if_icmp .le 19, 3) := by decide +kernel
theorem dL_bars_158 : decode cL_bars 158 = .ok (.aload_n 0, 1) := by decide +kernel
theorem dL_bars_159 : decode cL_bars 159 = .ok (.iload 4, 2) := by decide +kernel
theorem dL_bars_161 : decode cL_bars 161 = .ok (.iload 8, 2) := by decide +kernel
theorem dL_bars_163 : decode cL_bars 163 = .ok (.iconst 0, 1) := by decide +kernel
theorem dL_bars_164 : decode cL_bars 164 = .ok (.invokevirtual 44, 3) := by decide +kernel
theorem dL_bars_167 : decode cL_bars 167 = .ok (.bipush (-9), 2) := by decide +kernel
theorem dL_bars_169 : decode cL_bars 169 = .ok (.if_icmp .eq 188, 3) := by decide +kernel
theorem dL_bars_172 : decode cL_bars 172 = .ok (.iconst 0, 1) := by decide +kernel
theorem dL_bars_173 : decode cL_bars 173 = .ok (.ireturn, 1) := by decide +kernel
theorem dL_bars_174 : decode cL_bars 174 = .ok (.iinc 5 1, 3) := by decide +kernel
theorem dL_bars_177 : decode cL_bars 177 = .ok (.aload_n 0, 1) := by decide +kernel
theorem dL_bars_178 : decode cL_bars 178 = .ok (.iload 4, 2) := by decide +kernel
theorem dL_bars_180 : decode cL_bars 180 = .ok (.iload 8, 2) := by decide +kernel
theorem dL_bars_182 : decode cL_bars 182 = .ok (.iconst 1, 1) := by decide +kernel
theorem dL_bars_183 : decode cL_bars 183 = .ok (.invokevirtual 44, 3) := by decide +kernel
theorem dL_bars_186 : decode cL_bars 186 = .ok (.iload 9, 2) := by decide +kernel
theorem dL_bars_188 : decode cL_bars 188 = .ok (.if_icmp .ne 110, 3) := by decide +kernel
theorem dL_bars_191 : decode cL_bars 191 = .ok (.aload_n 0, 1) := by decide +kernel
theorem dL_bars_192 : decode cL_bars 192 = .ok (.iload 4, 2) := by decide +kernel
theorem dL_bars_194 : decode cL_bars 194 = .ok (.iload 8, 2) := by decide +kernel
theorem dL_bars_196 : decode cL_bars 196 = .ok (.iconst 2, 1) := by decide +kernel
theorem dL_bars_197 : decode cL_bars 197 = .ok (.invokevirtual 44, 3) := by decide +kernel
theorem dL_bars_200 : decode cL_bars 200 = .ok (.iload 10, 2) := by decide +kernel
theorem dL_bars_202 : decode cL_bars 202 = .ok (.if_icmp .ne 96, 3) := by decide +kernel
theorem dL_bars_205 : decode cL_bars 205 = .ok (.aload_n 0, 1) := by decide +kernel
theorem dL_bars_206 : decode cL_bars 206 = .ok (.iload 4, 2) := by decide +kernel
theorem dL_bars_208 : decode cL_bars 208 = .ok (.iload 8, 2) := by decide +kernel
theorem dL_bars_210 : decode cL_bars 210 = .ok (.iconst 3, 1) := by decide +kernel
theorem dL_bars_211 : decode cL_bars 211 = .ok (.invokevirtual 44, 3) := by decide +kernel
theorem dL_bars_214 : decode cL_bars 214 = .ok (.aload_n 0, 1) := by decide +kernel
theorem dL_bars_215 : decode cL_bars 215 = .ok (.iload 4, 2) := by decide +kernel
theorem dL_bars_217 : decode cL_bars 217 = .ok (.iconst 0, 1) := by decide +kernel
theorem dL_bars_218 : decode cL_bars 218 = .ok (.invokevirtual 41, 3) := by decide +kernel
theorem dL_bars_221 : decode cL_bars 221 = .ok (.iload 9, 2) := by decide +kernel
theorem dL_bars_223 : decode cL_bars 223 = .ok (.if_icmp .ge 7, 3) := by decide +kernel
theorem dL_bars_226 : decode cL_bars 226 = .ok (.iconst 1, 1) := by decide +kernel
theorem dL_bars_227 : decode cL_bars 227 = .ok (.goto 4, 3) := by decide +kernel
theorem dL_bars_230 : decode cL_bars 230 = .ok (.iconst 0, 1) := by decide +kernel
theorem dL_bars_231 : decode cL_bars 231 = .ok (.if_icmp .ne 67, 3) := by decide +kernel
theorem dL_bars_234 : decode cL_bars 234 = .ok (.aload_n 0, 1) := by decide +kernel
theorem dL_bars_235 : decode cL_bars 235 = .ok (.iload 4, 2) := by decide +kernel
theorem dL_bars_237 : decode cL_bars 237 = .ok (.iload 8, 2) := by decide +kernel
theorem dL_bars_239 : decode cL_bars 239 = .ok (.iconst 4, 1) := by decide +kernel
theorem dL_bars_240 : decode cL_bars 240 = .ok (.invokevirtual 44, 3) := by decide +kernel
theorem dL_bars_243 : decode cL_bars 243 = .ok (.aload_n 0, 1) := by decide +kernel
theorem dL_bars_244 : decode cL_bars 244 = .ok (.iload 4, 2) := by decide +kernel
theorem dL_bars_246 : decode cL_bars 246 = .ok (.iconst 1, 1) := by decide +kernel
theorem dL_bars_247 : decode cL_bars 247 = .ok (.invokevirtual 41, 3) := by decide +kernel
theorem dL_bars_250 : decode cL_bars 250 = .ok (.iload 10, 2) := by decide +kernel
theorem dL_bars_252 : decode cL_bars 252 = .ok (.if_icmp .le 7, 3) := by decide +kernel
theorem dL_bars_255 : decode cL_bars 255 = .ok (.iconst 1, 1) := by decide +kernel
theorem dL_bars_256 : decode cL_bars 256 = .ok (.goto 4, 3) := by decide +kernel
theorem dL_bars_259 : decode cL_bars 259 = .ok (.iconst 0, 1) := by decide +kernel
theorem dL_bars_260 : decode cL_bars 260 = .ok (.if_icmp .ne 38, 3) := by decide +kernel
theorem dL_bars_263 : decode cL_bars 263 = .ok (.aload_n 0, 1) := by decide +kernel
theorem dL_bars_264 : decode cL_bars 264 = .ok (.iload 4, 2) := by decide +kernel
theorem dL_bars_266 : decode cL_bars 266 = .ok (.iload 8, 2) := by decide +kernel
theorem dL_bars_268 : decode cL_bars 268 = .ok (.iconst 0, 1) := by decide +kernel
theorem dL_bars_269 : decode cL_bars 269 = .ok (.invokevirtual 44, 3) := by decide +kernel
theorem dL_bars_272 : decode cL_bars 272 = .ok (.ifCond .lt 26, 3) := by decide +kernel
theorem dL_bars_275 : decode cL_bars 275 = .ok (.aload_n 0, 1) := by decide +kernel
theorem dL_bars_276 : decode cL_bars 276 = .ok (.iload 4, 2) := by decide +kernel
theorem dL_bars_278 : decode cL_bars 278 = .ok (.iload 8, 2) := by decide +kernel
theorem dL_bars_280 : decode cL_bars 280 = .ok (.iconst 0, 1) := by decide +kernel
theorem dL_bars_281 : decode cL_bars 281 = .ok (.invokevirtual 44, 3) := by decide +kernel
theorem dL_bars_284 : decode cL_bars 284 = .ok (.aload_n 0, 1) := by decide +kernel
theorem dL_bars_285 : decode cL_bars 285 = .ok (.iload 8, 2) := by decide +kernel
theorem dL_bars_287 : decode cL_bars 287 = .ok (.iconst 3, 1) := by decide +kernel
theorem dL_bars_288 : decode cL_bars 288 = .ok (.invokevirtual 35, 3) := by decide +kernel
theorem dL_bars_291 : decode cL_bars 291 = .ok (.if_icmp .ge 7, 3) := by decide +kernel
theorem dL_bars_294 : decode cL_bars 294 = .ok (.iconst 1, 1) := by decide +kernel
theorem dL_bars_295 : decode cL_bars 295 = .ok (.goto 4, 3) := by decide +kernel
theorem dL_bars_298 : decode cL_bars 298 = .ok (.iconst 0, 1) := by decide +kernel
theorem dL_bars_299 : decode cL_bars 299 = .ok (.istore 11, 2) := by decide +kernel
theorem dL_bars_301 : decode cL_bars 301 = .ok (.iload 9, 2) := by decide +kernel
theorem dL_bars_303 : decode cL_bars 303 = .ok (.istore 12, 2) := by decide +kernel
theorem dL_bars_305 : decode cL_bars 305 = .ok (.iload 12, 2) := by decide +kernel
theorem dL_bars_307 : decode cL_bars 307 = .ok (.iload 10, 2) := by decide +kernel
theorem dL_bars_309 : decode cL_bars 309 = .ok (.if_icmp .gt 41, 3) := by decide +kernel
theorem dL_bars_312 : decode cL_bars 312 = .ok (.iload 11, 2) := by decide +kernel
theorem dL_bars_314 : decode cL_bars 314 = .ok (.ifCond .eq 27, 3) := by decide +kernel
theorem dL_bars_317 : decode cL_bars 317 = .ok (.aload_n 0, 1) := by decide +kernel
theorem dL_bars_318 : decode cL_bars 318 = .ok (.iload 4, 2) := by decide +kernel
theorem dL_bars_320 : decode cL_bars 320 = .ok (.iload 12, 2) := by decide +kernel
theorem dL_bars_322 : decode cL_bars 322 = .ok (.invokevirtual 48, 3) := by decide +kernel
theorem dL_bars_325 : decode cL_bars 325 = .ok (.aload_n 0, 1) := by decide +kernel
theorem dL_bars_326 : decode cL_bars 326 = .ok (.iload 4, 2) := by decide +kernel
theorem dL_bars_328 : decode cL_bars 328 = .ok (.iload 8, 2) := by decide +kernel
theorem dL_bars_330 : decode cL_bars 330 = .ok (.iconst 0, 1) := by decide +kernel
theorem dL_bars_331 : decode cL_bars 331 = .ok (.invokevirtual 44, 3) := by decide +kernel
theorem dL_bars_334 : decode cL_bars 334 = .ok (.if_icmp .ne 7, 3) := by decide +kernel
theorem dL_bars_337 : decode cL_bars 337 = .ok (.iconst 1, 1) := by decide +kernel
theorem dL_bars_338 : decode cL_bars 338 = .ok (.goto 4, 3) := by decide +kernel
theorem dL_bars_341 : decode cL_bars 341 = .ok (.iconst 0, 1) := by decide +kernel
theorem dL_bars_342 : decode cL_bars 342 = .ok (.istore 11, 2) := by decide +kernel
theorem dL_bars_344 : decode cL_bars 344 = .ok (.iinc 12 1, 3) := by decide +kernel
theorem dL_bars_347 : decode cL_bars 347 = .ok (.goto (-42), 3) := by decide +kernel
theorem dL_bars_350 : decode cL_bars 350 = .ok (.iload 11, 2) := by decide +kernel
theorem dL_bars_352 : decode cL_bars 352 = .ok (.ifCond .ne 5, 3) := by decide +kernel
theorem dL_bars_355 : decode cL_bars 355 = .ok (.iconst 0, 1) := by decide +kernel
theorem dL_bars_356 : decode cL_bars 356 = .ok (.ireturn, 1) := by decide +kernel
theorem dL_bars_357 : decode cL_bars 357 = .ok (.iinc 8 1, 3) := by decide +kernel
theorem dL_bars_360 : decode cL_bars 360 = .ok (.goto (-296), 3) := by decide +kernel
theorem dL_bars_363 : decode cL_bars 363 = .ok (.aload_n 0, 1) := by decide +kernel
theorem dL_bars_364 : decode cL_bars 364 = .ok (.iconst 0, 1) := by decide +kernel
theorem dL_bars_365 : decode cL_bars 365 = .ok (.invokevirtual 32, 3) := by decide +kernel
theorem dL_bars_368 : decode cL_bars 368 = .ok (.istore 8, 2) := by decide +kernel
theorem dL_bars_370 : decode cL_bars 370 = .ok (.iload 8, 2) := by decide +kernel
theorem dL_bars_372 : decode cL_bars 372 = .ok (.aload_n 0, 1) := by decide +kernel
theorem dL_bars_373 : decode cL_bars 373 = .ok (.iconst 1, 1) := by decide +kernel
theorem dL_bars_374 : decode cL_bars 374 = .ok (.invokevirtual 32, 3) := by decide +kernel
theorem dL_bars_377 : decode cL_bars 377 = .ok (.if_icmp .gt 78, 3) := by decide +kernel
theorem dL_bars_380 : decode cL_bars 380 = .ok (.iload 8, 2) := by decide +kernel
theorem dL_bars_382 : decode cL_bars 382 = .ok (.aload_n 0, 1) := by decide +kernel
theorem dL_bars_383 : decode cL_bars 383 = .ok (.iload 4, 2) := by decide +kernel
theorem dL_bars_385 : decode cL_bars 385 = .ok (.iconst 0, 1) := by decide +kernel
theorem dL_bars_386 : decode cL_bars 386 = .ok (.invokevirtual 41, 3) := by decide +kernel
theorem dL_bars_389 : decode cL_bars 389 = .ok (.if_icmp .lt 19, 3) := by decide +kernel
theorem dL_bars_392 : decode cL_bars 392 = .ok (.iload 8, 2) := by decide +kernel
theorem dL_bars_394 : decode cL_bars 394 = .ok (.aload_n 0, 1) := by decide +kernel
theorem dL_bars_395 : decode cL_bars 395 = .ok (.iload 4, 2) := by decide +kernel
theorem dL_bars_397 : decode cL_bars 397 = .ok (.iconst 1, 1) := by decide +kernel
theorem dL_bars_398 : decode cL_bars 398 = .ok (.invokevirtual 41, 3) := by decide +kernel
theorem dL_bars_401 : decode cL_bars 401 = .ok (.if_icmp .gt 7, 3) := by decide +kernel
theorem dL_bars_404 : decode cL_bars 404 = .ok (.iconst 1, 1) := by decide +kernel
theorem dL_bars_405 : decode cL_bars 405 = .ok (.goto 4, 3) := by decide +kernel
theorem dL_bars_408 : decode cL_bars 408 = .ok (.iconst 0, 1) := by decide +kernel
theorem dL_bars_409 : decode cL_bars 409 = .ok (.istore 9, 2) := by decide +kernel
theorem dL_bars_411 : decode cL_bars 411 = .ok (.iload 6, 2) := by decide +kernel
theorem dL_bars_413 : decode cL_bars 413 = .ok (.iload 9, 2) := by decide +kernel
theorem dL_bars_415 : decode cL_bars 415 = .ok (.ifCond .eq 7, 3) := by decide +kernel
theorem dL_bars_418 : decode cL_bars 418 = .ok (.iconst 1, 1) := by decide +kernel
theorem dL_bars_419 : decode cL_bars 419 = .ok (.goto 4, 3) := by decide +kernel
theorem dL_bars_422 : decode cL_bars 422 = .ok (.iconst 0, 1) := by decide +kernel
theorem dL_bars_423 : decode cL_bars 423 = .ok (.iadd, 1) := by decide +kernel
theorem dL_bars_424 : decode cL_bars 424 = .ok (.istore 6, 2) := by decide +kernel
theorem dL_bars_426 : decode cL_bars 426 = .ok (.aload_n 0, 1) := by decide +kernel
theorem dL_bars_427 : decode cL_bars 427 = .ok (.iload 4, 2) := by decide +kernel
theorem dL_bars_429 : decode cL_bars 429 = .ok (.iload 8, 2) := by decide +kernel
theorem dL_bars_431 : decode cL_bars 431 = .ok (.invokevirtual 48, 3) := by decide +kernel
theorem dL_bars_434 : decode cL_bars 434 = .ok (.ifCond .lt 7, 3) := by decide +kernel
theorem dL_bars_437 : decode cL_bars 437 = .ok (.iconst 1, 1) := by decide +kernel
theorem dL_bars_438 : decode cL_bars 438 = .ok (.goto 4, 3) := by decide +kernel
theorem dL_bars_441 : decode cL_bars 441 = .ok (.iconst 0, 1) := by decide +kernel
theorem dL_bars_442 : decode cL_bars 442 = .ok (.iload 9, 2) := by decide +kernel
theorem dL_bars_444 : decode cL_bars 444 = .ok (.if_icmp .eq 5, 3) := by decide +kernel
theorem dL_bars_447 : decode cL_bars 447 = .ok (.iconst 0, 1) := by decide +kernel
theorem dL_bars_448 : decode cL_bars 448 = .ok (.ireturn, 1) := by decide +kernel
theorem dL_bars_449 : decode cL_bars 449 = .ok (.iinc 8 1, 3) := by decide +kernel
theorem dL_bars_452 : decode cL_bars 452 = .ok (.goto (-82), 3) := by decide +kernel
theorem dL_bars_455 : decode cL_bars 455 = .ok (.aload_n 0, 1) := by decide +kernel
theorem dL_bars_456 : decode cL_bars 456 = .ok (.iload 4, 2) := by decide +kernel
theorem dL_bars_458 : decode cL_bars 458 = .ok (.iconst 4, 1) := by decide +kernel
theorem dL_bars_459 : decode cL_bars 459 = .ok (.invokevirtual 41, 3) := by decide +kernel
theorem dL_bars_462 : decode cL_bars 462 = .ok (.iload 7, 2) := by decide +kernel
theorem dL_bars_464 : decode cL_bars 464 = .ok (.ifCond .eq 7, 3) := by decide +kernel
theorem dL_bars_467 : decode cL_bars 467 = .ok (.iconst 1, 1) := by decide +kernel
theorem dL_bars_468 : decode cL_bars 468 = .ok (.goto 4, 3) := by decide +kernel
theorem dL_bars_471 : decode cL_bars 471 = .ok (.iconst 0, 1) := by decide +kernel
theorem dL_bars_472 : decode cL_bars 472 = .ok (.if_icmp .ne 28, 3) := by decide +kernel
theorem dL_bars_475 : decode cL_bars 475 = .ok (.aload_n 0, 1) := by decide +kernel
theorem dL_bars_476 : decode cL_bars 476 = .ok (.iload 4, 2) := by decide +kernel
theorem dL_bars_478 : decode cL_bars 478 = .ok (.iconst 5, 1) := by decide +kernel
theorem dL_bars_479 : decode cL_bars 479 = .ok (.invokevirtual 41, 3) := by decide +kernel
theorem dL_bars_482 : decode cL_bars 482 = .ok (.iload 6, 2) := by decide +kernel
theorem dL_bars_484 : decode cL_bars 484 = .ok (.if_icmp .ne 16, 3) := by decide +kernel
theorem dL_bars_487 : decode cL_bars 487 = .ok (.aload_n 0, 1) := by decide +kernel
theorem dL_bars_488 : decode cL_bars 488 = .ok (.iload 4, 2) := by decide +kernel
theorem dL_bars_490 : decode cL_bars 490 = .ok (.bipush 7, 2) := by decide +kernel
theorem dL_bars_492 : decode cL_bars 492 = .ok (.invokevirtual 41, 3) := by decide +kernel
theorem dL_bars_495 : decode cL_bars 495 = .ok (.iload 5, 2) := by decide +kernel
theorem dL_bars_497 : decode cL_bars 497 = .ok (.if_icmp .eq 5, 3) := by decide +kernel
theorem dL_bars_500 : decode cL_bars 500 = .ok (.iconst 0, 1) := by decide +kernel
theorem dL_bars_501 : decode cL_bars 501 = .ok (.ireturn, 1) := by decide +kernel
theorem dL_bars_502 : decode cL_bars 502 = .ok (.iload_n 1, 1) := by decide +kernel
theorem dL_bars_503 : decode cL_bars 503 = .ok (.iload 5, 2) := by decide +kernel
theorem dL_bars_505 : decode cL_bars 505 = .ok (.iadd, 1) := by decide +kernel
theorem dL_bars_506 : decode cL_bars 506 = .ok (.istore_n 1, 1) := by decide +kernel
theorem dL_bars_507 : decode cL_bars 507 = .ok (.iload_n 2, 1) := by decide +kernel
theorem dL_bars_508 : decode cL_bars 508 = .ok (.iload 6, 2) := by decide +kernel
theorem dL_bars_510 : decode cL_bars 510 = .ok (.ifCond .le 7, 3) := by decide +kernel
theorem dL_bars_513 : decode cL_bars 513 = .ok (.iconst 1, 1) := by decide +kernel
theorem dL_bars_514 : decode cL_bars 514 = .ok (.goto 4, 3) := by decide +kernel
theorem dL_bars_517 : decode cL_bars 517 = .ok (.iconst 0, 1) := by decide +kernel
theorem dL_bars_518 : decode cL_bars 518 = .ok (.iadd, 1) := by decide +kernel
theorem dL_bars_519 : decode cL_bars 519 = .ok (.istore_n 2, 1) := by decide +kernel
theorem dL_bars_520 : decode cL_bars 520 = .ok (.iload_n 3, 1) := by decide +kernel
theorem dL_bars_521 : decode cL_bars 521 = .ok (.iload 7, 2) := by decide +kernel
theorem dL_bars_523 : decode cL_bars 523 = .ok (.ifCond .eq 7, 3) := by decide +kernel
theorem dL_bars_526 : decode cL_bars 526 = .ok (.iconst 1, 1) := by decide +kernel
theorem dL_bars_527 : decode cL_bars 527 = .ok (.goto 4, 3) := by decide +kernel
theorem dL_bars_530 : decode cL_bars 530 = .ok (.iconst 0, 1) := by decide +kernel
theorem dL_bars_531 : decode cL_bars 531 = .ok (.iadd, 1) := by decide +kernel
theorem dL_bars_532 : decode cL_bars 532 = .ok (.istore_n 3, 1) := by decide +kernel
theorem dL_bars_533 : decode cL_bars 533 = .ok (.iinc 4 1, 3) := by decide +kernel
theorem dL_bars_536 : decode cL_bars 536 = .ok (.goto (-527), 3) := by decide +kernel
theorem dL_bars_539 : decode cL_bars 539 = .ok (.aload_n 0, 1) := by decide +kernel
theorem dL_bars_540 : decode cL_bars 540 = .ok (.bipush 8, 2) := by decide +kernel
theorem dL_bars_542 : decode cL_bars 542 = .ok (.invokevirtual 32, 3) := by decide +kernel
theorem dL_bars_545 : decode cL_bars 545 = .ok (.iload_n 1, 1) := by decide +kernel
theorem dL_bars_546 : decode cL_bars 546 = .ok (.if_icmp .ne 27, 3) := by decide +kernel
theorem dL_bars_549 : decode cL_bars 549 = .ok (.aload_n 0, 1) := by decide +kernel
theorem dL_bars_550 : decode cL_bars 550 = .ok (.bipush 7, 2) := by decide +kernel
theorem dL_bars_552 : decode cL_bars 552 = .ok (.invokevirtual 32, 3) := by decide +kernel
theorem dL_bars_555 : decode cL_bars 555 = .ok (.iload_n 2, 1) := by decide +kernel
theorem dL_bars_556 : decode cL_bars 556 = .ok (.if_icmp .ne 17, 3) := by decide +kernel
theorem dL_bars_559 : decode cL_bars 559 = .ok (.aload_n 0, 1) := by decide +kernel
theorem dL_bars_560 : decode cL_bars 560 = .ok (.bipush 6, 2) := by decide +kernel
theorem dL_bars_562 : decode cL_bars 562 = .ok (.invokevirtual 32, 3) := by decide +kernel
theorem dL_bars_565 : decode cL_bars 565 = .ok (.iload_n 3, 1) := by decide +kernel
theorem dL_bars_566 : decode cL_bars 566 = .ok (.if_icmp .ne 7, 3) := by decide +kernel
theorem dL_bars_569 : decode cL_bars 569 = .ok (.iconst 1, 1) := by decide +kernel
theorem dL_bars_570 : decode cL_bars 570 = .ok (.goto 4, 3) := by decide +kernel
theorem dL_bars_573 : decode cL_bars 573 = .ok (.iconst 0, 1) := by decide +kernel
theorem dL_bars_574 : decode cL_bars 574 = .ok (.ireturn, 1) := by decide +kernel
theorem dL_day_0 : decode cL_day 0 = .ok (.iconst 0, 1) := by decide +kernel
theorem dL_day_1 : decode cL_day 1 = .ok (.istore_n 3, 1) := by decide +kernel
theorem dL_day_2 : decode cL_day 2 = .ok (.iconst 0, 1) := by decide +kernel
theorem dL_day_3 : decode cL_day 3 = .ok (.istore 4, 2) := by decide +kernel
theorem dL_day_5 : decode cL_day 5 = .ok (.iconst 0, 1) := by decide +kernel
theorem dL_day_6 : decode cL_day 6 = .ok (.istore 5, 2) := by decide +kernel
theorem dL_day_8 : decode cL_day 8 = .ok (.iconst 0, 1) := by decide +kernel
theorem dL_day_9 : decode cL_day 9 = .ok (.istore 6, 2) := by decide +kernel
theorem dL_day_11 : decode cL_day 11 = .ok (.iload 6, 2) := by decide +kernel
theorem dL_day_13 : decode cL_day 13 = .ok (.aload_n 0, 1) := by decide +kernel
theorem dL_day_14 : decode cL_day 14 = .ok (.iconst 5, 1) := by decide +kernel
theorem dL_day_15 : decode cL_day 15 = .ok (.invokevirtual 32, 3) := by decide +kernel
theorem dL_day_18 : decode cL_day 18 = .ok (.if_icmp .ge 119, 3) := by decide +kernel
theorem dL_day_21 : decode cL_day 21 = .ok (.aload_n 0, 1) := by decide +kernel
theorem dL_day_22 : decode cL_day 22 = .ok (.iload 6, 2) := by decide +kernel
theorem dL_day_24 : decode cL_day 24 = .ok (.iload_n 1, 1) := by decide +kernel
theorem dL_day_25 : decode cL_day 25 = .ok (.invokevirtual 48, 3) := by decide +kernel
theorem dL_day_28 : decode cL_day 28 = .ok (.istore 7, 2) := by decide +kernel
theorem dL_day_30 : decode cL_day 30 = .ok (.iload 7, 2) := by decide +kernel
theorem dL_day_32 : decode cL_day 32 = .ok (.iload_n 3, 1) := by decide +kernel
theorem dL_day_33 : decode cL_day 33 = .ok (.if_icmp .lt 10, 3) := by decide +kernel
theorem dL_day_36 : decode cL_day 36 = .ok (.iload 7, 2) := by decide +kernel
theorem dL_day_38 : decode cL_day 38 = .ok (.iconst 1, 1) := by decide +kernel
theorem dL_day_39 : decode cL_day 39 = .ok (.iadd, 1) := by decide +kernel
theorem dL_day_40 : decode cL_day 40 = .ok (.goto 4, 3) := by decide +kernel
theorem dL_day_43 : decode cL_day 43 = .ok (.iload_n 3, 1) := by decide +kernel
theorem dL_day_44 : decode cL_day 44 = .ok (.istore_n 3, 1) := by decide +kernel
theorem dL_day_45 : decode cL_day 45 = .ok (.iload 4, 2) := by decide +kernel
theorem dL_day_47 : decode cL_day 47 = .ok (.iload 7, 2) := by decide +kernel
theorem dL_day_49 : decode cL_day 49 = .ok (.ifCond .lt 18, 3) := by decide +kernel
theorem dL_day_52 : decode cL_day 52 = .ok (.aload_n 0, 1) := by decide +kernel
theorem dL_day_53 : decode cL_day 53 = .ok (.iload 6, 2) := by decide +kernel
theorem dL_day_55 : decode cL_day 55 = .ok (.iconst 4, 1) := by decide +kernel
theorem dL_day_56 : decode cL_day 56 = .ok (.invokevirtual 41, 3) := by decide +kernel
theorem dL_day_59 : decode cL_day 59 = .ok (.iconst 1, 1) := by decide +kernel
theorem dL_day_60 : decode cL_day 60 = .ok (.if_icmp .ne 7, 3) := by decide +kernel
theorem dL_day_63 : decode cL_day 63 = .ok (.iconst 1, 1) := by decide +kernel
theorem dL_day_64 : decode cL_day 64 = .ok (.goto 4, 3) := by decide +kernel
theorem dL_day_67 : decode cL_day 67 = .ok (.iconst 0, 1) := by decide +kernel
theorem dL_day_68 : decode cL_day 68 = .ok (.iadd, 1) := by decide +kernel
theorem dL_day_69 : decode cL_day 69 = .ok (.istore 4, 2) := by decide +kernel
theorem dL_day_71 : decode cL_day 71 = .ok (.iload 5, 2) := by decide +kernel
theorem dL_day_73 : decode cL_day 73 = .ok (.iload 7, 2) := by decide +kernel
theorem dL_day_75 : decode cL_day 75 = .ok (.ifCond .lt 17, 3) := by decide +kernel
theorem dL_day_78 : decode cL_day 78 = .ok (.aload_n 0, 1) := by decide +kernel
theorem dL_day_79 : decode cL_day 79 = .ok (.iload 6, 2) := by decide +kernel
theorem dL_day_81 : decode cL_day 81 = .ok (.iconst 4, 1) := by decide +kernel
theorem dL_day_82 : decode cL_day 82 = .ok (.invokevirtual 41, 3) := by decide +kernel
theorem dL_day_85 : decode cL_day 85 = .ok (.ifCond .ne 7, 3) := by decide +kernel
theorem dL_day_88 : decode cL_day 88 = .ok (.iconst 1, 1) := by decide +kernel
theorem dL_day_89 : decode cL_day 89 = .ok (.goto 4, 3) := by decide +kernel
theorem dL_day_92 : decode cL_day 92 = .ok (.iconst 0, 1) := by decide +kernel
theorem dL_day_93 : decode cL_day 93 = .ok (.iadd, 1) := by decide +kernel
theorem dL_day_94 : decode cL_day 94 = .ok (.istore 5, 2) := by decide +kernel
theorem dL_day_96 : decode cL_day 96 = .ok (.iconst 0, 1) := by decide +kernel
theorem dL_day_97 : decode cL_day 97 = .ok (.istore 8, 2) := by decide +kernel
theorem dL_day_99 : decode cL_day 99 = .ok (.iload 8, 2) := by decide +kernel
theorem dL_day_101 : decode cL_day 101 = .ok (.iload 6, 2) := by decide +kernel
theorem dL_day_103 : decode cL_day 103 = .ok (.if_icmp .ge 28, 3) := by decide +kernel
theorem dL_day_106 : decode cL_day 106 = .ok (.iload 7, 2) := by decide +kernel
theorem dL_day_108 : decode cL_day 108 = .ok (.ifCond .lt 17, 3) := by decide +kernel
theorem dL_day_111 : decode cL_day 111 = .ok (.aload_n 0, 1) := by decide +kernel
theorem dL_day_112 : decode cL_day 112 = .ok (.iload 8, 2) := by decide +kernel
theorem dL_day_114 : decode cL_day 114 = .ok (.iload_n 1, 1) := by decide +kernel
theorem dL_day_115 : decode cL_day 115 = .ok (.invokevirtual 48, 3) := by decide +kernel
theorem dL_day_118 : decode cL_day 118 = .ok (.iload 7, 2) := by decide +kernel
theorem dL_day_120 : decode cL_day 120 = .ok (.if_icmp .ne 5, 3) := by decide +kernel
theorem dL_day_123 : decode cL_day 123 = .ok (.iconst 0, 1) := by decide +kernel
theorem dL_day_124 : decode cL_day 124 = .ok (.ireturn, 1) := by decide +kernel
theorem dL_day_125 : decode cL_day 125 = .ok (.iinc 8 1, 3) := by decide +kernel
theorem dL_day_128 : decode cL_day 128 = .ok (.goto (-29), 3) := by decide +kernel
theorem dL_day_131 : decode cL_day 131 = .ok (.iinc 6 1, 3) := by decide +kernel
theorem dL_day_134 : decode cL_day 134 = .ok (.goto (-123), 3) := by decide +kernel
theorem dL_day_137 : decode cL_day 137 = .ok (.iconst 0, 1) := by decide +kernel
theorem dL_day_138 : decode cL_day 138 = .ok (.istore 6, 2) := by decide +kernel
theorem dL_day_140 : decode cL_day 140 = .ok (.iconst 0, 1) := by decide +kernel
theorem dL_day_141 : decode cL_day 141 = .ok (.istore 7, 2) := by decide +kernel
theorem dL_day_143 : decode cL_day 143 = .ok (.iconst 0, 1) := by decide +kernel
theorem dL_day_144 : decode cL_day 144 = .ok (.istore 8, 2) := by decide +kernel
theorem dL_day_146 : decode cL_day 146 = .ok (.iload 8, 2) := by decide +kernel
theorem dL_day_148 : decode cL_day 148 = .ok (.aload_n 0, 1) := by decide +kernel
theorem dL_day_149 : decode cL_day 149 = .ok (.iconst 5, 1) := by decide +kernel
theorem dL_day_150 : decode cL_day 150 = .ok (.invokevirtual 32, 3) := by decide +kernel
theorem dL_day_153 : decode cL_day 153 = .ok (.if_icmp .ge 131, 3) := by decide +kernel
theorem dL_day_156 : decode cL_day 156 = .ok (.aload_n 0, 1) := by decide +kernel
theorem dL_day_157 : decode cL_day 157 = .ok (.iload 8, 2) := by decide +kernel
theorem dL_day_159 : decode cL_day 159 = .ok (.iload_n 1, 1) := by decide +kernel
theorem dL_day_160 : decode cL_day 160 = .ok (.invokevirtual 48, 3) := by decide +kernel
theorem dL_day_163 : decode cL_day 163 = .ok (.istore 9, 2) := by decide +kernel
theorem dL_day_165 : decode cL_day 165 = .ok (.iconst 1, 1) := by decide +kernel
theorem dL_day_166 : decode cL_day 166 = .ok (.istore 10, 2) := by decide +kernel
theorem dL_day_168 : decode cL_day 168 = .ok (.iload 10, 2) := by decide +kernel
theorem dL_day_170 : decode cL_day 170 = .ok (.bipush 12, 2) := by decide +kernel
theorem dL_day_172 : decode cL_day 172 = .ok (.if_icmp .gt 36, 3) := by decide +kernel
theorem dL_day_175 : decode cL_day 175 = .ok (.aload_n 2, 1) := by decide +kernel
theorem dL_day_176 : decode cL_day 176 = .ok (.iload 10, 2) := by decide +kernel
theorem dL_day_178 : decode cL_day 178 = .ok (.dup2, 1) := by decide +kernel
theorem dL_day_179 : decode cL_day 179 = .ok (.iaload, 1) := by decide +kernel
theorem dL_day_180 : decode cL_day 180 = .ok (.iload 9, 2) := by decide +kernel
theorem dL_day_182 : decode cL_day 182 = .ok (.iload 10, 2) := by decide +kernel
theorem dL_day_184 : decode cL_day 184 = .ok (.iconst 1, 1) := by decide +kernel
theorem dL_day_185 : decode cL_day 185 = .ok (.isub, 1) := by decide +kernel
theorem dL_day_186 : decode cL_day 186 = .ok (.if_icmp .lt 13, 3) := by decide +kernel
theorem dL_day_189 : decode cL_day 189 = .ok (.iload_n 3, 1) := by decide +kernel
theorem dL_day_190 : decode cL_day 190 = .ok (.iload 10, 2) := by decide +kernel
theorem dL_day_192 : decode cL_day 192 = .ok (.if_icmp .le 7, 3) := by decide +kernel
theorem dL_day_195 : decode cL_day 195 = .ok (.iconst 1, 1) := by decide +kernel
theorem dL_day_196 : decode cL_day 196 = .ok (.goto 4, 3) := by decide +kernel
theorem dL_day_199 : decode cL_day 199 = .ok (.iconst 0, 1) := by decide +kernel
theorem dL_day_200 : decode cL_day 200 = .ok (.iadd, 1) := by decide +kernel
theorem dL_day_201 : decode cL_day 201 = .ok (.iastore, 1) := by decide +kernel
theorem dL_day_202 : decode cL_day 202 = .ok (.iinc 10 1, 3) := by decide +kernel
theorem dL_day_205 : decode cL_day 205 = .ok (.goto (-37), 3) := by decide +kernel
theorem dL_day_208 : decode cL_day 208 = .ok (.iload 9, 2) := by decide +kernel
theorem dL_day_210 : decode cL_day 210 = .ok (.aload_n 0, 1) := by decide +kernel
theorem dL_day_211 : decode cL_day 211 = .ok (.iconst 3, 1) := by decide +kernel
theorem dL_day_212 : decode cL_day 212 = .ok (.invokevirtual 32, 3) := by decide +kernel
theorem dL_day_215 : decode cL_day 215 = .ok (.iconst 1, 1) := by decide +kernel
theorem dL_day_216 : decode cL_day 216 = .ok (.isub, 1) := by decide +kernel
theorem dL_day_217 : decode cL_day 217 = .ok (.if_icmp .lt 16, 3) := by decide +kernel
theorem dL_day_220 : decode cL_day 220 = .ok (.iload_n 3, 1) := by decide +kernel
theorem dL_day_221 : decode cL_day 221 = .ok (.aload_n 0, 1) := by decide +kernel
theorem dL_day_222 : decode cL_day 222 = .ok (.iconst 3, 1) := by decide +kernel
theorem dL_day_223 : decode cL_day 223 = .ok (.invokevirtual 32, 3) := by decide +kernel
theorem dL_day_226 : decode cL_day 226 = .ok (.if_icmp .le 7, 3) := by decide +kernel
theorem dL_day_229 : decode cL_day 229 = .ok (.iconst 1, 1) := by decide +kernel
theorem dL_day_230 : decode cL_day 230 = .ok (.goto 4, 3) := by decide +kernel
theorem dL_day_233 : decode cL_day 233 = .ok (.iconst 0, 1) := by decide +kernel
theorem dL_day_234 : decode cL_day 234 = .ok (.istore 10, 2) := by decide +kernel
theorem dL_day_236 : decode cL_day 236 = .ok (.iload 6, 2) := by decide +kernel
theorem dL_day_238 : decode cL_day 238 = .ok (.iload 10, 2) := by decide +kernel
theorem dL_day_240 : decode cL_day 240 = .ok (.ifCond .eq 7, 3) := by decide +kernel
theorem dL_day_243 : decode cL_day 243 = .ok (.iconst 1, 1) := by decide +kernel
theorem dL_day_244 : decode cL_day 244 = .ok (.goto 4, 3) := by decide +kernel
theorem dL_day_247 : decode cL_day 247 = .ok (.iconst 0, 1) := by decide +kernel
theorem dL_day_248 : decode cL_day 248 = .ok (.iadd, 1) := by decide +kernel
theorem dL_day_249 : decode cL_day 249 = .ok (.istore 6, 2) := by decide +kernel
theorem dL_day_251 : decode cL_day 251 = .ok (.iload 9, 2) := by decide +kernel
theorem dL_day_253 : decode cL_day 253 = .ok (.ifCond .lt 25, 3) := by decide +kernel
theorem dL_day_256 : decode cL_day 256 = .ok (.iload 10, 2) := by decide +kernel
theorem dL_day_258 : decode cL_day 258 = .ok (.ifCond .ne 20, 3) := by decide +kernel
theorem dL_day_261 : decode cL_day 261 = .ok (.iinc 7 1, 3) := by decide +kernel
theorem dL_day_264 : decode cL_day 264 = .ok (.aload_n 0, 1) := by decide +kernel
theorem dL_day_265 : decode cL_day 265 = .ok (.iload_n 1, 1) := by decide +kernel
theorem dL_day_266 : decode cL_day 266 = .ok (.iload 9, 2) := by decide +kernel
theorem dL_day_268 : decode cL_day 268 = .ok (.invokevirtual 51, 3) := by decide +kernel
theorem dL_day_271 : decode cL_day 271 = .ok (.iload 8, 2) := by decide +kernel
theorem dL_day_273 : decode cL_day 273 = .ok (.if_icmp .eq 5, 3) := by decide +kernel
theorem dL_day_276 : decode cL_day 276 = .ok (.iconst 0, 1) := by decide +kernel
theorem dL_day_277 : decode cL_day 277 = .ok (.ireturn, 1) := by decide +kernel
theorem dL_day_278 : decode cL_day 278 = .ok (.iinc 8 1, 3) := by decide +kernel
theorem dL_day_281 : decode cL_day 281 = .ok (.goto (-135), 3) := by decide +kernel
theorem dL_day_284 : decode cL_day 284 = .ok (.iconst 0, 1) := by decide +kernel
theorem dL_day_285 : decode cL_day 285 = .ok (.istore 8, 2) := by decide +kernel
theorem dL_day_287 : decode cL_day 287 = .ok (.iconst 0, 1) := by decide +kernel
theorem dL_day_288 : decode cL_day 288 = .ok (.istore 9, 2) := by decide +kernel
theorem dL_day_290 : decode cL_day 290 = .ok (.iload 9, 2) := by decide +kernel
theorem dL_day_292 : decode cL_day 292 = .ok (.bipush 12, 2) := by decide +kernel
theorem dL_day_294 : decode cL_day 294 = .ok (.if_icmp .ge 53, 3) := by decide +kernel
theorem dL_day_297 : decode cL_day 297 = .ok (.iload 8, 2) := by decide +kernel
theorem dL_day_299 : decode cL_day 299 = .ok (.aload_n 0, 1) := by decide +kernel
theorem dL_day_300 : decode cL_day 300 = .ok (.iload_n 1, 1) := by decide +kernel
theorem dL_day_301 : decode cL_day 301 = .ok (.iload 9, 2) := by decide +kernel
theorem dL_day_303 : decode cL_day 303 = .ok (.invokevirtual 51, 3) := by decide +kernel
theorem dL_day_306 : decode cL_day 306 = .ok (.ifCond .lt 7, 3) := by decide +kernel
theorem dL_day_309 : decode cL_day 309 = .ok (.iconst 1, 1) := by decide +kernel
theorem dL_day_310 : decode cL_day 310 = .ok (.goto 4, 3) := by decide +kernel
theorem dL_day_313 : decode cL_day 313 = .ok (.iconst 0, 1) := by decide +kernel
theorem dL_day_314 : decode cL_day 314 = .ok (.iadd, 1) := by decide +kernel
theorem dL_day_315 : decode cL_day 315 = .ok (.istore 8, 2) := by decide +kernel
theorem dL_day_317 : decode cL_day 317 = .ok (.iload 9, 2) := by decide +kernel
theorem dL_day_319 : decode cL_day 319 = .ok (.aload_n 0, 1) := by decide +kernel
theorem dL_day_320 : decode cL_day 320 = .ok (.iconst 3, 1) := by decide +kernel
theorem dL_day_321 : decode cL_day 321 = .ok (.invokevirtual 32, 3) := by decide +kernel
theorem dL_day_324 : decode cL_day 324 = .ok (.if_icmp .lt 17, 3) := by decide +kernel
theorem dL_day_327 : decode cL_day 327 = .ok (.aload_n 0, 1) := by decide +kernel
theorem dL_day_328 : decode cL_day 328 = .ok (.iload_n 1, 1) := by decide +kernel
theorem dL_day_329 : decode cL_day 329 = .ok (.iload 9, 2) := by decide +kernel
theorem dL_day_331 : decode cL_day 331 = .ok (.invokevirtual 51, 3) := by decide +kernel
theorem dL_day_334 : decode cL_day 334 = .ok (.bipush (-9), 2) := by decide +kernel
theorem dL_day_336 : decode cL_day 336 = .ok (.if_icmp .eq 5, 3) := by decide +kernel
theorem dL_day_339 : decode cL_day 339 = .ok (.iconst 0, 1) := by decide +kernel
theorem dL_day_340 : decode cL_day 340 = .ok (.ireturn, 1) := by decide +kernel
theorem dL_day_341 : decode cL_day 341 = .ok (.iinc 9 1, 3) := by decide +kernel
theorem dL_day_344 : decode cL_day 344 = .ok (.goto (-54), 3) := by decide +kernel
theorem dL_day_347 : decode cL_day 347 = .ok (.iload 6, 2) := by decide +kernel
theorem dL_day_349 : decode cL_day 349 = .ok (.ifCond .eq 23, 3) := by decide +kernel
theorem dL_day_352 : decode cL_day 352 = .ok (.aload_n 0, 1) := by decide +kernel
theorem dL_day_353 : decode cL_day 353 = .ok (.iload_n 1, 1) := by decide +kernel
theorem dL_day_354 : decode cL_day 354 = .ok (.aload_n 0, 1) := by decide +kernel
theorem dL_day_355 : decode cL_day 355 = .ok (.iconst 3, 1) := by decide +kernel
theorem dL_day_356 : decode cL_day 356 = .ok (.invokevirtual 32, 3) := by decide +kernel
theorem dL_day_359 : decode cL_day 359 = .ok (.iconst 1, 1) := by decide +kernel
theorem dL_day_360 : decode cL_day 360 = .ok (.isub, 1) := by decide +kernel
theorem dL_day_361 : decode cL_day 361 = .ok (.invokevirtual 51, 3) := by decide +kernel
theorem dL_day_364 : decode cL_day 364 = .ok (.bipush (-10), 2) := by decide +kernel
theorem dL_day_366 : decode cL_day 366 = .ok (.iload 6, 2) := by decide +kernel
theorem dL_day_368 : decode cL_day 368 = .ok (.isub, 1) := by decide +kernel
theorem dL_day_369 : decode cL_day 369 = .ok (.if_icmp .ne 7, 3) := by decide +kernel
theorem dL_day_372 : decode cL_day 372 = .ok (.iconst 1, 1) := by decide +kernel
theorem dL_day_373 : decode cL_day 373 = .ok (.goto 4, 3) := by decide +kernel
theorem dL_day_376 : decode cL_day 376 = .ok (.iconst 0, 1) := by decide +kernel
theorem dL_day_377 : decode cL_day 377 = .ok (.istore 9, 2) := by decide +kernel
theorem dL_day_379 : decode cL_day 379 = .ok (.iload 9, 2) := by decide +kernel
theorem dL_day_381 : decode cL_day 381 = .ok (.ifCond .eq 70, 3) := by decide +kernel
theorem dL_day_384 : decode cL_day 384 = .ok (.iload 8, 2) := by decide +kernel
theorem dL_day_386 : decode cL_day 386 = .ok (.iload 7, 2) := by decide +kernel
theorem dL_day_388 : decode cL_day 388 = .ok (.if_icmp .ne 63, 3) := by decide +kernel
theorem dL_day_391 : decode cL_day 391 = .ok (.iload 7, 2) := by decide +kernel
theorem dL_day_393 : decode cL_day 393 = .ok (.iload 6, 2) := by decide +kernel
theorem dL_day_395 : decode cL_day 395 = .ok (.iadd, 1) := by decide +kernel
theorem dL_day_396 : decode cL_day 396 = .ok (.iload 4, 2) := by decide +kernel
theorem dL_day_398 : decode cL_day 398 = .ok (.iload 5, 2) := by decide +kernel
theorem dL_day_400 : decode cL_day 400 = .ok (.iadd, 1) := by decide +kernel
theorem dL_day_401 : decode cL_day 401 = .ok (.if_icmp .ne 50, 3) := by decide +kernel
theorem dL_day_404 : decode cL_day 404 = .ok (.aload_n 0, 1) := by decide +kernel
theorem dL_day_405 : decode cL_day 405 = .ok (.iload_n 1, 1) := by decide +kernel
theorem dL_day_406 : decode cL_day 406 = .ok (.iconst 2, 1) := by decide +kernel
theorem dL_day_407 : decode cL_day 407 = .ok (.invokevirtual 38, 3) := by decide +kernel
theorem dL_day_410 : decode cL_day 410 = .ok (.iload 4, 2) := by decide +kernel
theorem dL_day_412 : decode cL_day 412 = .ok (.if_icmp .ne 39, 3) := by decide +kernel
theorem dL_day_415 : decode cL_day 415 = .ok (.aload_n 0, 1) := by decide +kernel
theorem dL_day_416 : decode cL_day 416 = .ok (.iload_n 1, 1) := by decide +kernel
theorem dL_day_417 : decode cL_day 417 = .ok (.iconst 3, 1) := by decide +kernel
theorem dL_day_418 : decode cL_day 418 = .ok (.invokevirtual 38, 3) := by decide +kernel
theorem dL_day_421 : decode cL_day 421 = .ok (.iload 5, 2) := by decide +kernel
theorem dL_day_423 : decode cL_day 423 = .ok (.if_icmp .ne 28, 3) := by decide +kernel
theorem dL_day_426 : decode cL_day 426 = .ok (.aload_n 0, 1) := by decide +kernel
theorem dL_day_427 : decode cL_day 427 = .ok (.iload_n 1, 1) := by decide +kernel
theorem dL_day_428 : decode cL_day 428 = .ok (.iconst 4, 1) := by decide +kernel
theorem dL_day_429 : decode cL_day 429 = .ok (.invokevirtual 38, 3) := by decide +kernel
theorem dL_day_432 : decode cL_day 432 = .ok (.iload 6, 2) := by decide +kernel
theorem dL_day_434 : decode cL_day 434 = .ok (.if_icmp .ne 17, 3) := by decide +kernel
theorem dL_day_437 : decode cL_day 437 = .ok (.aload_n 0, 1) := by decide +kernel
theorem dL_day_438 : decode cL_day 438 = .ok (.iload_n 1, 1) := by decide +kernel
theorem dL_day_439 : decode cL_day 439 = .ok (.iconst 5, 1) := by decide +kernel
theorem dL_day_440 : decode cL_day 440 = .ok (.invokevirtual 38, 3) := by decide +kernel
theorem dL_day_443 : decode cL_day 443 = .ok (.iload_n 3, 1) := by decide +kernel
theorem dL_day_444 : decode cL_day 444 = .ok (.if_icmp .ne 7, 3) := by decide +kernel
theorem dL_day_447 : decode cL_day 447 = .ok (.iconst 1, 1) := by decide +kernel
theorem dL_day_448 : decode cL_day 448 = .ok (.goto 4, 3) := by decide +kernel
theorem dL_day_451 : decode cL_day 451 = .ok (.iconst 0, 1) := by decide +kernel
theorem dL_day_452 : decode cL_day 452 = .ok (.ireturn, 1) := by decide +kernel
theorem dL_frees_0 : decode cL_frees 0 = .ok (.bipush (-9), 2) := by decide +kernel
theorem dL_frees_2 : decode cL_frees 2 = .ok (.istore_n 3, 1) := by decide +kernel
theorem dL_frees_3 : decode cL_frees 3 = .ok (.aload_n 0, 1) := by decide +kernel
theorem dL_frees_4 : decode cL_frees 4 = .ok (.iconst 1, 1) := by decide +kernel
theorem dL_frees_5 : decode cL_frees 5 = .ok (.invokevirtual 32, 3) := by decide +kernel
theorem dL_frees_8 : decode cL_frees 8 = .ok (.iload_n 1, 1) := by decide +kernel
theorem dL_frees_9 : decode cL_frees 9 = .ok (.isub, 1) := by decide +kernel
theorem dL_frees_10 : decode cL_frees 10 = .ok (.iconst 1, 1) := by decide +kernel
theorem dL_frees_11 : decode cL_frees 11 = .ok (.iadd, 1) := by decide +kernel
theorem dL_frees_12 : decode cL_frees 12 = .ok (.istore 4, 2) := by decide +kernel
theorem dL_frees_14 : decode cL_frees 14 = .ok (.iload 4, 2) := by decide +kernel
theorem dL_frees_16 : decode cL_frees 16 = .ok (.aload_n 0, 1) := by decide +kernel
theorem dL_frees_17 : decode cL_frees 17 = .ok (.iconst 0, 1) := by decide +kernel
theorem dL_frees_18 : decode cL_frees 18 = .ok (.invokevirtual 32, 3) := by decide +kernel
theorem dL_frees_21 : decode cL_frees 21 = .ok (.if_icmp .lt 94, 3) := by decide +kernel
theorem dL_frees_24 : decode cL_frees 24 = .ok (.iload_n 2, 1) := by decide +kernel
theorem dL_frees_25 : decode cL_frees 25 = .ok (.ifCond .eq 24, 3) := by decide +kernel
theorem dL_frees_28 : decode cL_frees 28 = .ok (.aload_n 0, 1) := by decide +kernel
theorem dL_frees_29 : decode cL_frees 29 = .ok (.iload 4, 2) := by decide +kernel
theorem dL_frees_31 : decode cL_frees 31 = .ok (.iconst 0, 1) := by decide +kernel
theorem dL_frees_32 : decode cL_frees 32 = .ok (.invokevirtual 38, 3) := by decide +kernel
theorem dL_frees_35 : decode cL_frees 35 = .ok (.aload_n 0, 1) := by decide +kernel
theorem dL_frees_36 : decode cL_frees 36 = .ok (.iload 4, 2) := by decide +kernel
theorem dL_frees_38 : decode cL_frees 38 = .ok (.iload_n 1, 1) := by decide +kernel
theorem dL_frees_39 : decode cL_frees 39 = .ok (.iadd, 1) := by decide +kernel
theorem dL_frees_40 : decode cL_frees 40 = .ok (.iconst 1, 1) := by decide +kernel
theorem dL_frees_41 : decode cL_frees 41 = .ok (.isub, 1) := by decide +kernel
theorem dL_frees_42 : decode cL_frees 42 = .ok (.iconst 0, 1) := by decide +kernel
theorem dL_frees_43 : decode cL_frees 43 = .ok (.invokevirtual 38, 3) := by decide +kernel
theorem dL_frees_46 : decode cL_frees 46 = .ok (.if_icmp .ne 7, 3) := by decide +kernel
theorem dL_frees_49 : decode cL_frees 49 = .ok (.iconst 1, 1) := by decide +kernel
theorem dL_frees_50 : decode cL_frees 50 = .ok (.goto 4, 3) := by decide +kernel
theorem dL_frees_53 : decode cL_frees 53 = .ok (.iconst 0, 1) := by decide +kernel
theorem dL_frees_54 : decode cL_frees 54 = .ok (.istore 5, 2) := by decide +kernel
theorem dL_frees_56 : decode cL_frees 56 = .ok (.iload 4, 2) := by decide +kernel
theorem dL_frees_58 : decode cL_frees 58 = .ok (.istore 6, 2) := by decide +kernel
theorem dL_frees_60 : decode cL_frees 60 = .ok (.iload 6, 2) := by decide +kernel
theorem dL_frees_62 : decode cL_frees 62 = .ok (.iload 4, 2) := by decide +kernel
theorem dL_frees_64 : decode cL_frees 64 = .ok (.iload_n 1, 1) := by decide +kernel
theorem dL_frees_65 : decode cL_frees 65 = .ok (.iadd, 1) := by decide +kernel
theorem dL_frees_66 : decode cL_frees 66 = .ok (.if_icmp .ge 31, 3) := by decide +kernel
theorem dL_frees_69 : decode cL_frees 69 = .ok (.iload 5, 2) := by decide +kernel
theorem dL_frees_71 : decode cL_frees 71 = .ok (.ifCond .eq 17, 3) := by decide +kernel
theorem dL_frees_74 : decode cL_frees 74 = .ok (.aload_n 0, 1) := by decide +kernel
theorem dL_frees_75 : decode cL_frees 75 = .ok (.iload 6, 2) := by decide +kernel
theorem dL_frees_77 : decode cL_frees 77 = .ok (.iconst 5, 1) := by decide +kernel
theorem dL_frees_78 : decode cL_frees 78 = .ok (.invokevirtual 38, 3) := by decide +kernel
theorem dL_frees_81 : decode cL_frees 81 = .ok (.ifCond .ne 7, 3) := by decide +kernel
theorem dL_frees_84 : decode cL_frees 84 = .ok (.iconst 1, 1) := by decide +kernel
theorem dL_frees_85 : decode cL_frees 85 = .ok (.goto 4, 3) := by decide +kernel
theorem dL_frees_88 : decode cL_frees 88 = .ok (.iconst 0, 1) := by decide +kernel
theorem dL_frees_89 : decode cL_frees 89 = .ok (.istore 5, 2) := by decide +kernel
theorem dL_frees_91 : decode cL_frees 91 = .ok (.iinc 6 1, 3) := by decide +kernel
theorem dL_frees_94 : decode cL_frees 94 = .ok (.goto (-34), 3) := by decide +kernel
theorem dL_frees_97 : decode cL_frees 97 = .ok (.iload 5, 2) := by decide +kernel
theorem dL_frees_99 : decode cL_frees 99 = .ok (.ifCond .eq 8, 3) := by decide +kernel
theorem dL_frees_102 : decode cL_frees 102 = .ok (.iload 4, 2) := by decide +kernel
theorem dL_frees_104 : decode cL_frees 104 = .ok (.goto 4, 3) := by decide +kernel
theorem dL_frees_107 : decode cL_frees 107 = .ok (.iload_n 3, 1) := by decide +kernel
theorem dL_frees_108 : decode cL_frees 108 = .ok (.istore_n 3, 1) := by decide +kernel
theorem dL_frees_109 : decode cL_frees 109 = .ok (.iinc 4 (-1), 3) := by decide +kernel
theorem dL_frees_112 : decode cL_frees 112 = .ok (.goto (-98), 3) := by decide +kernel
theorem dL_frees_115 : decode cL_frees 115 = .ok (.aload_n 0, 1) := by decide +kernel
theorem dL_frees_116 : decode cL_frees 116 = .ok (.iload_n 1, 1) := by decide +kernel
theorem dL_frees_117 : decode cL_frees 117 = .ok (.iload_n 2, 1) := by decide +kernel
theorem dL_frees_118 : decode cL_frees 118 = .ok (.invokevirtual 54, 3) := by decide +kernel
theorem dL_frees_121 : decode cL_frees 121 = .ok (.iload_n 3, 1) := by decide +kernel
theorem dL_frees_122 : decode cL_frees 122 = .ok (.if_icmp .ne 7, 3) := by decide +kernel
theorem dL_frees_125 : decode cL_frees 125 = .ok (.iconst 1, 1) := by decide +kernel
theorem dL_frees_126 : decode cL_frees 126 = .ok (.goto 4, 3) := by decide +kernel
theorem dL_frees_129 : decode cL_frees 129 = .ok (.iconst 0, 1) := by decide +kernel
theorem dL_frees_130 : decode cL_frees 130 = .ok (.ireturn, 1) := by decide +kernel
theorem dL_law_0 : decode cL_law 0 = .ok (.new 16, 3) := by decide +kernel
theorem dL_law_3 : decode cL_law 3 = .ok (.dup, 1) := by decide +kernel
theorem dL_law_4 : decode cL_law 4 = .ok (.invokespecial 58, 3) := by decide +kernel
theorem dL_law_7 : decode cL_law 7 = .ok (.astore_n 1, 1) := by decide +kernel
theorem dL_law_8 : decode cL_law 8 = .ok (.aload_n 1, 1) := by decide +kernel
theorem dL_law_9 : decode cL_law 9 = .ok (.aload_n 0, 1) := by decide +kernel
theorem dL_law_10 : decode cL_law 10 = .ok (.invokestatic 59, 3) := by decide +kernel
theorem dL_law_13 : decode cL_law 13 = .ok (.ifCond .eq 17, 3) := by decide +kernel
theorem dL_law_16 : decode cL_law 16 = .ok (.aload_n 1, 1) := by decide +kernel
theorem dL_law_17 : decode cL_law 17 = .ok (.invokestatic 63, 3) := by decide +kernel
theorem dL_law_20 : decode cL_law 20 = .ok (.ifCond .eq 10, 3) := by decide +kernel
theorem dL_law_23 : decode cL_law 23 = .ok (.aload_n 1, 1) := by decide +kernel
theorem dL_law_24 : decode cL_law 24 = .ok (.invokestatic 67, 3) := by decide +kernel
theorem dL_law_27 : decode cL_law 27 = .ok (.ifCond .ne 5, 3) := by decide +kernel
theorem dL_law_30 : decode cL_law 30 = .ok (.iconst 0, 1) := by decide +kernel
theorem dL_law_31 : decode cL_law 31 = .ok (.ireturn, 1) := by decide +kernel
theorem dL_law_32 : decode cL_law 32 = .ok (.bipush 13, 2) := by decide +kernel
theorem dL_law_34 : decode cL_law 34 = .ok (.newarray .int, 2) := by decide +kernel
theorem dL_law_36 : decode cL_law 36 = .ok (.astore_n 2, 1) := by decide +kernel
theorem dL_law_37 : decode cL_law 37 = .ok (.iconst 1, 1) := by decide +kernel
theorem dL_law_38 : decode cL_law 38 = .ok (.istore_n 3, 1) := by decide +kernel
theorem dL_law_39 : decode cL_law 39 = .ok (.aload_n 1, 1) := by decide +kernel
theorem dL_law_40 : decode cL_law 40 = .ok (.iconst 0, 1) := by decide +kernel
theorem dL_law_41 : decode cL_law 41 = .ok (.invokevirtual 32, 3) := by decide +kernel
theorem dL_law_44 : decode cL_law 44 = .ok (.istore 4, 2) := by decide +kernel
theorem dL_law_46 : decode cL_law 46 = .ok (.iload 4, 2) := by decide +kernel
theorem dL_law_48 : decode cL_law 48 = .ok (.aload_n 1, 1) := by decide +kernel
theorem dL_law_49 : decode cL_law 49 = .ok (.iconst 1, 1) := by decide +kernel
theorem dL_law_50 : decode cL_law 50 = .ok (.invokevirtual 32, 3) := by decide +kernel
theorem dL_law_53 : decode cL_law 53 = .ok (.if_icmp .gt 44, 3) := by decide +kernel
theorem dL_law_56 : decode cL_law 56 = .ok (.aload_n 1, 1) := by decide +kernel
theorem dL_law_57 : decode cL_law 57 = .ok (.iload 4, 2) := by decide +kernel
theorem dL_law_59 : decode cL_law 59 = .ok (.aload_n 2, 1) := by decide +kernel
theorem dL_law_60 : decode cL_law 60 = .ok (.invokestatic 70, 3) := by decide +kernel
theorem dL_law_63 : decode cL_law 63 = .ok (.ifCond .ne 5, 3) := by decide +kernel
theorem dL_law_66 : decode cL_law 66 = .ok (.iconst 0, 1) := by decide +kernel
theorem dL_law_67 : decode cL_law 67 = .ok (.ireturn, 1) := by decide +kernel
theorem dL_law_68 : decode cL_law 68 = .ok (.aload_n 1, 1) := by decide +kernel
theorem dL_law_69 : decode cL_law 69 = .ok (.iload 4, 2) := by decide +kernel
theorem dL_law_71 : decode cL_law 71 = .ok (.iconst 5, 1) := by decide +kernel
theorem dL_law_72 : decode cL_law 72 = .ok (.invokevirtual 38, 3) := by decide +kernel
theorem dL_law_75 : decode cL_law 75 = .ok (.iload_n 3, 1) := by decide +kernel
theorem dL_law_76 : decode cL_law 76 = .ok (.if_icmp .le 13, 3) := by decide +kernel
theorem dL_law_79 : decode cL_law 79 = .ok (.aload_n 1, 1) := by decide +kernel
theorem dL_law_80 : decode cL_law 80 = .ok (.iload 4, 2) := by decide +kernel
theorem dL_law_82 : decode cL_law 82 = .ok (.iconst 5, 1) := by decide +kernel
theorem dL_law_83 : decode cL_law 83 = .ok (.invokevirtual 38, 3) := by decide +kernel
theorem dL_law_86 : decode cL_law 86 = .ok (.goto 4, 3) := by decide +kernel
theorem dL_law_89 : decode cL_law 89 = .ok (.iload_n 3, 1) := by decide +kernel
theorem dL_law_90 : decode cL_law 90 = .ok (.istore_n 3, 1) := by decide +kernel
theorem dL_law_91 : decode cL_law 91 = .ok (.iinc 4 1, 3) := by decide +kernel
theorem dL_law_94 : decode cL_law 94 = .ok (.goto (-48), 3) := by decide +kernel
theorem dL_law_97 : decode cL_law 97 = .ok (.aload_n 1, 1) := by decide +kernel
theorem dL_law_98 : decode cL_law 98 = .ok (.invokevirtual 73, 3) := by decide +kernel
theorem dL_law_101 : decode cL_law 101 = .ok (.iload_n 3, 1) := by decide +kernel
theorem dL_law_102 : decode cL_law 102 = .ok (.if_icmp .ne 23, 3) := by decide +kernel
theorem dL_law_105 : decode cL_law 105 = .ok (.aload_n 1, 1) := by decide +kernel
theorem dL_law_106 : decode cL_law 106 = .ok (.bipush 9, 2) := by decide +kernel
theorem dL_law_108 : decode cL_law 108 = .ok (.invokevirtual 32, 3) := by decide +kernel
theorem dL_law_111 : decode cL_law 111 = .ok (.aload_n 2, 1) := by decide +kernel
theorem dL_law_112 : decode cL_law 112 = .ok (.aload_n 1, 1) := by decide +kernel
theorem dL_law_113 : decode cL_law 113 = .ok (.iconst 3, 1) := by decide +kernel
theorem dL_law_114 : decode cL_law 114 = .ok (.invokevirtual 32, 3) := by decide +kernel
theorem dL_law_117 : decode cL_law 117 = .ok (.iaload, 1) := by decide +kernel
theorem dL_law_118 : decode cL_law 118 = .ok (.if_icmp .ne 7, 3) := by decide +kernel
theorem dL_law_121 : decode cL_law 121 = .ok (.iconst 1, 1) := by decide +kernel
theorem dL_law_122 : decode cL_law 122 = .ok (.goto 4, 3) := by decide +kernel
theorem dL_law_125 : decode cL_law 125 = .ok (.iconst 0, 1) := by decide +kernel
theorem dL_law_126 : decode cL_law 126 = .ok (.istore 4, 2) := by decide +kernel
theorem dL_law_128 : decode cL_law 128 = .ok (.iconst 1, 1) := by decide +kernel
theorem dL_law_129 : decode cL_law 129 = .ok (.istore 5, 2) := by decide +kernel
theorem dL_law_131 : decode cL_law 131 = .ok (.iload 5, 2) := by decide +kernel
theorem dL_law_133 : decode cL_law 133 = .ok (.bipush 12, 2) := by decide +kernel
theorem dL_law_135 : decode cL_law 135 = .ok (.if_icmp .gt 34, 3) := by decide +kernel
theorem dL_law_138 : decode cL_law 138 = .ok (.iload 4, 2) := by decide +kernel
theorem dL_law_140 : decode cL_law 140 = .ok (.ifCond .eq 20, 3) := by decide +kernel
theorem dL_law_143 : decode cL_law 143 = .ok (.aload_n 1, 1) := by decide +kernel
theorem dL_law_144 : decode cL_law 144 = .ok (.iload 5, 2) := by decide +kernel
theorem dL_law_146 : decode cL_law 146 = .ok (.invokevirtual 77, 3) := by decide +kernel
theorem dL_law_149 : decode cL_law 149 = .ok (.aload_n 2, 1) := by decide +kernel
theorem dL_law_150 : decode cL_law 150 = .ok (.iload 5, 2) := by decide +kernel
theorem dL_law_152 : decode cL_law 152 = .ok (.iaload, 1) := by decide +kernel
theorem dL_law_153 : decode cL_law 153 = .ok (.if_icmp .ne 7, 3) := by decide +kernel
theorem dL_law_156 : decode cL_law 156 = .ok (.iconst 1, 1) := by decide +kernel
theorem dL_law_157 : decode cL_law 157 = .ok (.goto 4, 3) := by decide +kernel
theorem dL_law_160 : decode cL_law 160 = .ok (.iconst 0, 1) := by decide +kernel
theorem dL_law_161 : decode cL_law 161 = .ok (.istore 4, 2) := by decide +kernel
theorem dL_law_163 : decode cL_law 163 = .ok (.iinc 5 1, 3) := by decide +kernel
theorem dL_law_166 : decode cL_law 166 = .ok (.goto (-35), 3) := by decide +kernel
theorem dL_law_169 : decode cL_law 169 = .ok (.iconst 0, 1) := by decide +kernel
theorem dL_law_170 : decode cL_law 170 = .ok (.istore 5, 2) := by decide +kernel
theorem dL_law_172 : decode cL_law 172 = .ok (.iconst 0, 1) := by decide +kernel
theorem dL_law_173 : decode cL_law 173 = .ok (.istore 6, 2) := by decide +kernel
theorem dL_law_175 : decode cL_law 175 = .ok (.iload 6, 2) := by decide +kernel
theorem dL_law_177 : decode cL_law 177 = .ok (.aload_n 1, 1) := by decide +kernel
theorem dL_law_178 : decode cL_law 178 = .ok (.iconst 5, 1) := by decide +kernel
theorem dL_law_179 : decode cL_law 179 = .ok (.invokevirtual 32, 3) := by decide +kernel
theorem dL_law_182 : decode cL_law 182 = .ok (.if_icmp .ge 22, 3) := by decide +kernel
theorem dL_law_185 : decode cL_law 185 = .ok (.iload 5, 2) := by decide +kernel
theorem dL_law_187 : decode cL_law 187 = .ok (.aload_n 1, 1) := by decide +kernel
theorem dL_law_188 : decode cL_law 188 = .ok (.iload 6, 2) := by decide +kernel
theorem dL_law_190 : decode cL_law 190 = .ok (.bipush 6, 2) := by decide +kernel
theorem dL_law_192 : decode cL_law 192 = .ok (.invokevirtual 41, 3) := by decide +kernel
theorem dL_law_195 : decode cL_law 195 = .ok (.iadd, 1) := by decide +kernel
theorem dL_law_196 : decode cL_law 196 = .ok (.istore 5, 2) := by decide +kernel
theorem dL_law_198 : decode cL_law 198 = .ok (.iinc 6 1, 3) := by decide +kernel
theorem dL_law_201 : decode cL_law 201 = .ok (.goto (-26), 3) := by decide +kernel
theorem dL_law_204 : decode cL_law 204 = .ok (.iconst 0, 1) := by decide +kernel
theorem dL_law_205 : decode cL_law 205 = .ok (.istore 6, 2) := by decide +kernel
theorem dL_law_207 : decode cL_law 207 = .ok (.iconst 0, 1) := by decide +kernel
theorem dL_law_208 : decode cL_law 208 = .ok (.istore 7, 2) := by decide +kernel
theorem dL_law_210 : decode cL_law 210 = .ok (.iload 7, 2) := by decide +kernel
theorem dL_law_212 : decode cL_law 212 = .ok (.aload_n 1, 1) := by decide +kernel
theorem dL_law_213 : decode cL_law 213 = .ok (.iconst 4, 1) := by decide +kernel
theorem dL_law_214 : decode cL_law 214 = .ok (.invokevirtual 32, 3) := by decide +kernel
theorem dL_law_217 : decode cL_law 217 = .ok (.if_icmp .ge 21, 3) := by decide +kernel
theorem dL_law_220 : decode cL_law 220 = .ok (.iload 6, 2) := by decide +kernel
theorem dL_law_222 : decode cL_law 222 = .ok (.aload_n 1, 1) := by decide +kernel
theorem dL_law_223 : decode cL_law 223 = .ok (.iload 7, 2) := by decide +kernel
theorem dL_law_225 : decode cL_law 225 = .ok (.iconst 5, 1) := by decide +kernel
theorem dL_law_226 : decode cL_law 226 = .ok (.invokevirtual 35, 3) := by decide +kernel
theorem dL_law_229 : decode cL_law 229 = .ok (.iadd, 1) := by decide +kernel
theorem dL_law_230 : decode cL_law 230 = .ok (.istore 6, 2) := by decide +kernel
theorem dL_law_232 : decode cL_law 232 = .ok (.iinc 7 1, 3) := by decide +kernel
theorem dL_law_235 : decode cL_law 235 = .ok (.goto (-25), 3) := by decide +kernel
theorem dL_law_238 : decode cL_law 238 = .ok (.iload 4, 2) := by decide +kernel
theorem dL_law_240 : decode cL_law 240 = .ok (.ifCond .eq 25, 3) := by decide +kernel
theorem dL_law_243 : decode cL_law 243 = .ok (.iload 5, 2) := by decide +kernel
theorem dL_law_245 : decode cL_law 245 = .ok (.aload_n 1, 1) := by decide +kernel
theorem dL_law_246 : decode cL_law 246 = .ok (.bipush 9, 2) := by decide +kernel
theorem dL_law_248 : decode cL_law 248 = .ok (.invokevirtual 32, 3) := by decide +kernel
theorem dL_law_251 : decode cL_law 251 = .ok (.if_icmp .ne 14, 3) := by decide +kernel
theorem dL_law_254 : decode cL_law 254 = .ok (.iload 6, 2) := by decide +kernel
theorem dL_law_256 : decode cL_law 256 = .ok (.iload 5, 2) := by decide +kernel
theorem dL_law_258 : decode cL_law 258 = .ok (.if_icmp .ne 7, 3) := by decide +kernel
theorem dL_law_261 : decode cL_law 261 = .ok (.iconst 1, 1) := by decide +kernel
theorem dL_law_262 : decode cL_law 262 = .ok (.goto 4, 3) := by decide +kernel
theorem dL_law_265 : decode cL_law 265 = .ok (.iconst 0, 1) := by decide +kernel
theorem dL_law_266 : decode cL_law 266 = .ok (.istore 4, 2) := by decide +kernel
theorem dL_law_268 : decode cL_law 268 = .ok (.iconst 0, 1) := by decide +kernel
theorem dL_law_269 : decode cL_law 269 = .ok (.istore 7, 2) := by decide +kernel
theorem dL_law_271 : decode cL_law 271 = .ok (.iload 7, 2) := by decide +kernel
theorem dL_law_273 : decode cL_law 273 = .ok (.iconst 4, 1) := by decide +kernel
theorem dL_law_274 : decode cL_law 274 = .ok (.if_icmp .ge 54, 3) := by decide +kernel
theorem dL_law_277 : decode cL_law 277 = .ok (.iload 4, 2) := by decide +kernel
theorem dL_law_279 : decode cL_law 279 = .ok (.ifCond .eq 40, 3) := by decide +kernel
theorem dL_law_282 : decode cL_law 282 = .ok (.aload_n 1, 1) := by decide +kernel
theorem dL_law_283 : decode cL_law 283 = .ok (.iconst 1, 1) := by decide +kernel
theorem dL_law_284 : decode cL_law 284 = .ok (.aload_n 0, 1) := by decide +kernel
theorem dL_law_285 : decode cL_law 285 = .ok (.bipush 20, 2) := by decide +kernel
theorem dL_law_287 : decode cL_law 287 = .ok (.iload 7, 2) := by decide +kernel
theorem dL_law_289 : decode cL_law 289 = .ok (.iadd, 1) := by decide +kernel
theorem dL_law_290 : decode cL_law 290 = .ok (.invokestatic 9, 3) := by decide +kernel
theorem dL_law_293 : decode cL_law 293 = .ok (.bipush 9, 2) := by decide +kernel
theorem dL_law_295 : decode cL_law 295 = .ok (.irem, 1) := by decide +kernel
theorem dL_law_296 : decode cL_law 296 = .ok (.iadd, 1) := by decide +kernel
theorem dL_law_297 : decode cL_law 297 = .ok (.iload 7, 2) := by decide +kernel
theorem dL_law_299 : decode cL_law 299 = .ok (.iconst 2, 1) := by decide +kernel
theorem dL_law_300 : decode cL_law 300 = .ok (.irem, 1) := by decide +kernel
theorem dL_law_301 : decode cL_law 301 = .ok (.ifCond .ne 7, 3) := by decide +kernel
theorem dL_law_304 : decode cL_law 304 = .ok (.iconst 1, 1) := by decide +kernel
theorem dL_law_305 : decode cL_law 305 = .ok (.goto 4, 3) := by decide +kernel
theorem dL_law_308 : decode cL_law 308 = .ok (.iconst 0, 1) := by decide +kernel
theorem dL_law_309 : decode cL_law 309 = .ok (.invokestatic 80, 3) := by decide +kernel
theorem dL_law_312 : decode cL_law 312 = .ok (.ifCond .eq 7, 3) := by decide +kernel
theorem dL_law_315 : decode cL_law 315 = .ok (.iconst 1, 1) := by decide +kernel
theorem dL_law_316 : decode cL_law 316 = .ok (.goto 4, 3) := by decide +kernel
theorem dL_law_319 : decode cL_law 319 = .ok (.iconst 0, 1) := by decide +kernel
theorem dL_law_320 : decode cL_law 320 = .ok (.istore 4, 2) := by decide +kernel
theorem dL_law_322 : decode cL_law 322 = .ok (.iinc 7 1, 3) := by decide +kernel
theorem dL_law_325 : decode cL_law 325 = .ok (.goto (-54), 3) := by decide +kernel
theorem dL_law_328 : decode cL_law 328 = .ok (.aload_n 0, 1) := by decide +kernel
theorem dL_law_329 : decode cL_law 329 = .ok (.bipush 24, 2) := by decide +kernel
theorem dL_law_331 : decode cL_law 331 = .ok (.invokestatic 9, 3) := by decide +kernel
theorem dL_law_334 : decode cL_law 334 = .ok (.aload_n 1, 1) := by decide +kernel
theorem dL_law_335 : decode cL_law 335 = .ok (.iconst 5, 1) := by decide +kernel
theorem dL_law_336 : decode cL_law 336 = .ok (.invokevirtual 32, 3) := by decide +kernel
theorem dL_law_339 : decode cL_law 339 = .ok (.irem, 1) := by decide +kernel
theorem dL_law_340 : decode cL_law 340 = .ok (.istore 7, 2) := by decide +kernel
theorem dL_law_342 : decode cL_law 342 = .ok (.aload_n 1, 1) := by decide +kernel
theorem dL_law_343 : decode cL_law 343 = .ok (.iload 7, 2) := by decide +kernel
theorem dL_law_345 : decode cL_law 345 = .ok (.iconst 0, 1) := by decide +kernel
theorem dL_law_346 : decode cL_law 346 = .ok (.invokevirtual 41, 3) := by decide +kernel
theorem dL_law_349 : decode cL_law 349 = .ok (.istore 8, 2) := by decide +kernel
theorem dL_law_351 : decode cL_law 351 = .ok (.aload_n 1, 1) := by decide +kernel
theorem dL_law_352 : decode cL_law 352 = .ok (.iload 7, 2) := by decide +kernel
theorem dL_law_354 : decode cL_law 354 = .ok (.invokevirtual 84, 3) := by decide +kernel
theorem dL_law_357 : decode cL_law 357 = .ok (.istore 9, 2) := by decide +kernel
theorem dL_law_359 : decode cL_law 359 = .ok (.iload 4, 2) := by decide +kernel
theorem dL_law_361 : decode cL_law 361 = .ok (.ifCond .eq 43, 3) := by decide +kernel
theorem dL_law_364 : decode cL_law 364 = .ok (.iload 9, 2) := by decide +kernel
theorem dL_law_366 : decode cL_law 366 = .ok (.aload_n 1, 1) := by decide +kernel
theorem dL_law_367 : decode cL_law 367 = .ok (.iconst 0, 1) := by decide +kernel
theorem dL_law_368 : decode cL_law 368 = .ok (.invokevirtual 32, 3) := by decide +kernel
theorem dL_law_371 : decode cL_law 371 = .ok (.if_icmp .lt 33, 3) := by decide +kernel
theorem dL_law_374 : decode cL_law 374 = .ok (.iload 9, 2) := by decide +kernel
theorem dL_law_376 : decode cL_law 376 = .ok (.aload_n 1, 1) := by decide +kernel
theorem dL_law_377 : decode cL_law 377 = .ok (.iconst 1, 1) := by decide +kernel
theorem dL_law_378 : decode cL_law 378 = .ok (.invokevirtual 32, 3) := by decide +kernel
theorem dL_law_381 : decode cL_law 381 = .ok (.if_icmp .gt 23, 3) := by decide +kernel
theorem dL_law_384 : decode cL_law 384 = .ok (.aload_n 1, 1) := by decide +kernel
theorem dL_law_385 : decode cL_law 385 = .ok (.iload 7, 2) := by decide +kernel
theorem dL_law_387 : decode cL_law 387 = .ok (.iload 9, 2) := by decide +kernel
theorem dL_law_389 : decode cL_law 389 = .ok (.iload 8, 2) := by decide +kernel
theorem dL_law_391 : decode cL_law 391 = .ok (.isub, 1) := by decide +kernel
theorem dL_law_392 : decode cL_law 392 = .ok (.invokevirtual 87, 3) := by decide +kernel
theorem dL_law_395 : decode cL_law 395 = .ok (.iload 9, 2) := by decide +kernel
theorem dL_law_397 : decode cL_law 397 = .ok (.if_icmp .ne 7, 3) := by decide +kernel
theorem dL_law_400 : decode cL_law 400 = .ok (.iconst 1, 1) := by decide +kernel
theorem dL_law_401 : decode cL_law 401 = .ok (.goto 4, 3) := by decide +kernel
theorem dL_law_404 : decode cL_law 404 = .ok (.iconst 0, 1) := by decide +kernel
theorem dL_law_405 : decode cL_law 405 = .ok (.istore 4, 2) := by decide +kernel
theorem dL_law_407 : decode cL_law 407 = .ok (.iload 4, 2) := by decide +kernel
theorem dL_law_409 : decode cL_law 409 = .ok (.ifCond .eq 52, 3) := by decide +kernel
theorem dL_law_412 : decode cL_law 412 = .ok (.iload 8, 2) := by decide +kernel
theorem dL_law_414 : decode cL_law 414 = .ok (.aload_n 1, 1) := by decide +kernel
theorem dL_law_415 : decode cL_law 415 = .ok (.iconst 0, 1) := by decide +kernel
theorem dL_law_416 : decode cL_law 416 = .ok (.invokevirtual 32, 3) := by decide +kernel
theorem dL_law_419 : decode cL_law 419 = .ok (.if_icmp .lt 24, 3) := by decide +kernel
theorem dL_law_422 : decode cL_law 422 = .ok (.iload 8, 2) := by decide +kernel
theorem dL_law_424 : decode cL_law 424 = .ok (.aload_n 1, 1) := by decide +kernel
theorem dL_law_425 : decode cL_law 425 = .ok (.iconst 1, 1) := by decide +kernel
theorem dL_law_426 : decode cL_law 426 = .ok (.invokevirtual 32, 3) := by decide +kernel
theorem dL_law_429 : decode cL_law 429 = .ok (.if_icmp .gt 14, 3) := by decide +kernel
theorem dL_law_432 : decode cL_law 432 = .ok (.aload_n 1, 1) := by decide +kernel
theorem dL_law_433 : decode cL_law 433 = .ok (.bipush 9, 2) := by decide +kernel
theorem dL_law_435 : decode cL_law 435 = .ok (.invokevirtual 32, 3) := by decide +kernel
theorem dL_law_438 : decode cL_law 438 = .ok (.iload 5, 2) := by decide +kernel
theorem dL_law_440 : decode cL_law 440 = .ok (.if_icmp .gt 21, 3) := by decide +kernel
theorem dL_law_443 : decode cL_law 443 = .ok (.aload_n 1, 1) := by decide +kernel
theorem dL_law_444 : decode cL_law 444 = .ok (.invokestatic 63, 3) := by decide +kernel
theorem dL_law_447 : decode cL_law 447 = .ok (.ifCond .eq 14, 3) := by decide +kernel
theorem dL_law_450 : decode cL_law 450 = .ok (.aload_n 1, 1) := by decide +kernel
theorem dL_law_451 : decode cL_law 451 = .ok (.invokestatic 67, 3) := by decide +kernel
theorem dL_law_454 : decode cL_law 454 = .ok (.ifCond .eq 7, 3) := by decide +kernel
theorem dL_law_457 : decode cL_law 457 = .ok (.iconst 1, 1) := by decide +kernel
theorem dL_law_458 : decode cL_law 458 = .ok (.goto 4, 3) := by decide +kernel
theorem dL_law_461 : decode cL_law 461 = .ok (.iconst 0, 1) := by decide +kernel
theorem dL_law_462 : decode cL_law 462 = .ok (.istore 4, 2) := by decide +kernel
theorem dL_law_464 : decode cL_law 464 = .ok (.iload 4, 2) := by decide +kernel
theorem dL_law_466 : decode cL_law 466 = .ok (.ifCond .eq 37, 3) := by decide +kernel
theorem dL_law_469 : decode cL_law 469 = .ok (.aload_n 1, 1) := by decide +kernel
theorem dL_law_470 : decode cL_law 470 = .ok (.invokevirtual 90, 3) := by decide +kernel
theorem dL_law_473 : decode cL_law 473 = .ok (.ifCond .lt 30, 3) := by decide +kernel
theorem dL_law_476 : decode cL_law 476 = .ok (.aload_n 1, 1) := by decide +kernel
theorem dL_law_477 : decode cL_law 477 = .ok (.bipush 9, 2) := by decide +kernel
theorem dL_law_479 : decode cL_law 479 = .ok (.invokevirtual 32, 3) := by decide +kernel
theorem dL_law_482 : decode cL_law 482 = .ok (.iload 5, 2) := by decide +kernel
theorem dL_law_484 : decode cL_law 484 = .ok (.if_icmp .ne 19, 3) := by decide +kernel
theorem dL_law_487 : decode cL_law 487 = .ok (.aload_n 1, 1) := by decide +kernel
theorem dL_law_488 : decode cL_law 488 = .ok (.iload 7, 2) := by decide +kernel
theorem dL_law_490 : decode cL_law 490 = .ok (.iconst 0, 1) := by decide +kernel
theorem dL_law_491 : decode cL_law 491 = .ok (.invokevirtual 41, 3) := by decide +kernel
theorem dL_law_494 : decode cL_law 494 = .ok (.iload 8, 2) := by decide +kernel
theorem dL_law_496 : decode cL_law 496 = .ok (.if_icmp .ne 7, 3) := by decide +kernel
theorem dL_law_499 : decode cL_law 499 = .ok (.iconst 1, 1) := by decide +kernel
theorem dL_law_500 : decode cL_law 500 = .ok (.goto 4, 3) := by decide +kernel
theorem dL_law_503 : decode cL_law 503 = .ok (.iconst 0, 1) := by decide +kernel
theorem dL_law_504 : decode cL_law 504 = .ok (.ireturn, 1) := by decide +kernel
