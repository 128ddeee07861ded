theorem dX0_init_0 : decode cX0_init 0 = .ok (.aload_n 0, 1) := by decide +kernel
theorem dX0_init_1 : decode cX0_init 1 = .ok (.invokespecial 3, 3) := by decide +kernel
theorem dX0_init_4 : decode cX0_init 4 = .ok (.aload_n 0, 1) := by decide +kernel
theorem dX0_init_5 : decode cX0_init 5 = .ok (.new 9, 3) := by decide +kernel
theorem dX0_init_8 : decode cX0_init 8 = .ok (.dup, 1) := by decide +kernel
theorem dX0_init_9 : decode cX0_init 9 = .ok (.invokespecial 11, 3) := by decide +kernel
theorem dX0_init_12 : decode cX0_init 12 = .ok (.putfield 12, 3) := by decide +kernel
theorem dX0_init_15 : decode cX0_init 15 = .ok (.aload_n 0, 1) := by decide +kernel
theorem dX0_init_16 : decode cX0_init 16 = .ok (.iconst 0, 1) := by decide +kernel
theorem dX0_init_17 : decode cX0_init 17 = .ok (.putfield 18, 3) := by decide +kernel
theorem dX0_init_20 : decode cX0_init 20 = .ok (.aload_n 0, 1) := by decide +kernel
theorem dX0_init_21 : decode cX0_init 21 = .ok (.bipush 8, 2) := by decide +kernel
theorem dX0_init_23 : decode cX0_init 23 = .ok (.newarray .int, 2) := by decide +kernel
theorem dX0_init_25 : decode cX0_init 25 = .ok (.putfield 22, 3) := by decide +kernel
theorem dX0_init_28 : decode cX0_init 28 = .ok (.aload_n 0, 1) := by decide +kernel
theorem dX0_init_29 : decode cX0_init 29 = .ok (.bipush 24, 2) := by decide +kernel
theorem dX0_init_31 : decode cX0_init 31 = .ok (.bipush 7, 2) := by decide +kernel
theorem dX0_init_33 : decode cX0_init 33 = .ok (.multianewarray 26 2, 4) := by decide +kernel
theorem dX0_init_37 : decode cX0_init 37 = .ok (.putfield 28, 3) := by decide +kernel
theorem dX0_init_40 : decode cX0_init 40 = .ok (.aload_n 0, 1) := by decide +kernel
theorem dX0_init_41 : decode cX0_init 41 = .ok (.bipush 24, 2) := by decide +kernel
theorem dX0_init_43 : decode cX0_init 43 = .ok (.newarray .int, 2) := by decide +kernel
theorem dX0_init_45 : decode cX0_init 45 = .ok (.putfield 31, 3) := by decide +kernel
theorem dX0_init_48 : decode cX0_init 48 = .ok (.aload_n 0, 1) := by decide +kernel
theorem dX0_init_49 : decode cX0_init 49 = .ok (.bipush 42, 2) := by decide +kernel
theorem dX0_init_51 : decode cX0_init 51 = .ok (.newarray .int, 2) := by decide +kernel
theorem dX0_init_53 : decode cX0_init 53 = .ok (.putfield 34, 3) := by decide +kernel
theorem dX0_init_56 : decode cX0_init 56 = .ok (.aload_n 0, 1) := by decide +kernel
theorem dX0_init_57 : decode cX0_init 57 = .ok (.bipush 24, 2) := by decide +kernel
theorem dX0_init_59 : decode cX0_init 59 = .ok (.newarray .int, 2) := by decide +kernel
theorem dX0_init_61 : decode cX0_init 61 = .ok (.putfield 37, 3) := by decide +kernel
theorem dX0_init_64 : decode cX0_init 64 = .ok (.aload_n 0, 1) := by decide +kernel
theorem dX0_init_65 : decode cX0_init 65 = .ok (.iconst 0, 1) := by decide +kernel
theorem dX0_init_66 : decode cX0_init 66 = .ok (.putfield 40, 3) := by decide +kernel
theorem dX0_init_69 : decode cX0_init 69 = .ok (.return_, 1) := by decide +kernel
theorem dX0_lay_0 : decode cX0_lay 0 = .ok (.aload_n 0, 1) := by decide +kernel
theorem dX0_lay_1 : decode cX0_lay 1 = .ok (.invokevirtual 43, 3) := by decide +kernel
theorem dX0_lay_4 : decode cX0_lay 4 = .ok (.aload_n 0, 1) := by decide +kernel
theorem dX0_lay_5 : decode cX0_lay 5 = .ok (.invokevirtual 46, 3) := by decide +kernel
theorem dX0_lay_8 : decode cX0_lay 8 = .ok (.iconst 0, 1) := by decide +kernel
theorem dX0_lay_9 : decode cX0_lay 9 = .ok (.istore_n 1, 1) := by decide +kernel
theorem dX0_lay_10 : decode cX0_lay 10 = .ok (.iload_n 1, 1) := by decide +kernel
theorem dX0_lay_11 : decode cX0_lay 11 = .ok (.aload_n 0, 1) := by decide +kernel
theorem dX0_lay_12 : decode cX0_lay 12 = .ok (.getfield 18, 3) := by decide +kernel
theorem dX0_lay_15 : decode cX0_lay 15 = .ok (.if_icmp .ge 41, 3) := by decide +kernel
theorem dX0_lay_18 : decode cX0_lay 18 = .ok (.aload_n 0, 1) := by decide +kernel
theorem dX0_lay_19 : decode cX0_lay 19 = .ok (.iload_n 1, 1) := by decide +kernel
theorem dX0_lay_20 : decode cX0_lay 20 = .ok (.invokevirtual 49, 3) := by decide +kernel
theorem dX0_lay_23 : decode cX0_lay 23 = .ok (.iconst 0, 1) := by decide +kernel
theorem dX0_lay_24 : decode cX0_lay 24 = .ok (.istore_n 2, 1) := by decide +kernel
theorem dX0_lay_25 : decode cX0_lay 25 = .ok (.iload_n 2, 1) := by decide +kernel
theorem dX0_lay_26 : decode cX0_lay 26 = .ok (.aload_n 0, 1) := by decide +kernel
theorem dX0_lay_27 : decode cX0_lay 27 = .ok (.getfield 40, 3) := by decide +kernel
theorem dX0_lay_30 : decode cX0_lay 30 = .ok (.if_icmp .ge 20, 3) := by decide +kernel
theorem dX0_lay_33 : decode cX0_lay 33 = .ok (.aload_n 0, 1) := by decide +kernel
theorem dX0_lay_34 : decode cX0_lay 34 = .ok (.aload_n 0, 1) := by decide +kernel
theorem dX0_lay_35 : decode cX0_lay 35 = .ok (.getfield 37, 3) := by decide +kernel
theorem dX0_lay_38 : decode cX0_lay 38 = .ok (.iload_n 2, 1) := by decide +kernel
theorem dX0_lay_39 : decode cX0_lay 39 = .ok (.iaload, 1) := by decide +kernel
theorem dX0_lay_40 : decode cX0_lay 40 = .ok (.iload_n 1, 1) := by decide +kernel
theorem dX0_lay_41 : decode cX0_lay 41 = .ok (.invokevirtual 53, 3) := by decide +kernel
theorem dX0_lay_44 : decode cX0_lay 44 = .ok (.iinc 2 1, 3) := by decide +kernel
theorem dX0_lay_47 : decode cX0_lay 47 = .ok (.goto (-22), 3) := by decide +kernel
theorem dX0_lay_50 : decode cX0_lay 50 = .ok (.iinc 1 1, 3) := by decide +kernel
theorem dX0_lay_53 : decode cX0_lay 53 = .ok (.goto (-43), 3) := by decide +kernel
theorem dX0_lay_56 : decode cX0_lay 56 = .ok (.aload_n 0, 1) := by decide +kernel
theorem dX0_lay_57 : decode cX0_lay 57 = .ok (.invokevirtual 57, 3) := by decide +kernel
theorem dX0_lay_60 : decode cX0_lay 60 = .ok (.iconst 0, 1) := by decide +kernel
theorem dX0_lay_61 : decode cX0_lay 61 = .ok (.istore_n 1, 1) := by decide +kernel
theorem dX0_lay_62 : decode cX0_lay 62 = .ok (.iload_n 1, 1) := by decide +kernel
theorem dX0_lay_63 : decode cX0_lay 63 = .ok (.aload_n 0, 1) := by decide +kernel
theorem dX0_lay_64 : decode cX0_lay 64 = .ok (.getfield 40, 3) := by decide +kernel
theorem dX0_lay_67 : decode cX0_lay 67 = .ok (.if_icmp .ge 19, 3) := by decide +kernel
theorem dX0_lay_70 : decode cX0_lay 70 = .ok (.aload_n 0, 1) := by decide +kernel
theorem dX0_lay_71 : decode cX0_lay 71 = .ok (.aload_n 0, 1) := by decide +kernel
theorem dX0_lay_72 : decode cX0_lay 72 = .ok (.getfield 37, 3) := by decide +kernel
theorem dX0_lay_75 : decode cX0_lay 75 = .ok (.iload_n 1, 1) := by decide +kernel
theorem dX0_lay_76 : decode cX0_lay 76 = .ok (.iaload, 1) := by decide +kernel
theorem dX0_lay_77 : decode cX0_lay 77 = .ok (.invokevirtual 60, 3) := by decide +kernel
theorem dX0_lay_80 : decode cX0_lay 80 = .ok (.iinc 1 1, 3) := by decide +kernel
theorem dX0_lay_83 : decode cX0_lay 83 = .ok (.goto (-21), 3) := by decide +kernel
theorem dX0_lay_86 : decode cX0_lay 86 = .ok (.return_, 1) := by decide +kernel
theorem dX0_cutWeeks_0 : decode cX0_cutWeeks 0 = .ok (.aload_n 0, 1) := by decide +kernel
theorem dX0_cutWeeks_1 : decode cX0_cutWeeks 1 = .ok (.iconst 0, 1) := by decide +kernel
theorem dX0_cutWeeks_2 : decode cX0_cutWeeks 2 = .ok (.putfield 18, 3) := by decide +kernel
theorem dX0_cutWeeks_5 : decode cX0_cutWeeks 5 = .ok (.aload_n 0, 1) := by decide +kernel
theorem dX0_cutWeeks_6 : decode cX0_cutWeeks 6 = .ok (.getfield 12, 3) := by decide +kernel
theorem dX0_cutWeeks_9 : decode cX0_cutWeeks 9 = .ok (.getfield 63, 3) := by decide +kernel
theorem dX0_cutWeeks_12 : decode cX0_cutWeeks 12 = .ok (.istore_n 1, 1) := by decide +kernel
theorem dX0_cutWeeks_13 : decode cX0_cutWeeks 13 = .ok (.iload_n 1, 1) := by decide +kernel
theorem dX0_cutWeeks_14 : decode cX0_cutWeeks 14 = .ok (.aload_n 0, 1) := by decide +kernel
theorem dX0_cutWeeks_15 : decode cX0_cutWeeks 15 = .ok (.getfield 12, 3) := by decide +kernel
theorem dX0_cutWeeks_18 : decode cX0_cutWeeks 18 = .ok (.getfield 66, 3) := by decide +kernel
theorem dX0_cutWeeks_21 : decode cX0_cutWeeks 21 = .ok (.if_icmp .gt 63, 3) := by decide +kernel
theorem dX0_cutWeeks_24 : decode cX0_cutWeeks 24 = .ok (.aload_n 0, 1) := by decide +kernel
theorem dX0_cutWeeks_25 : decode cX0_cutWeeks 25 = .ok (.getfield 18, 3) := by decide +kernel
theorem dX0_cutWeeks_28 : decode cX0_cutWeeks 28 = .ok (.bipush 7, 2) := by decide +kernel
theorem dX0_cutWeeks_30 : decode cX0_cutWeeks 30 = .ok (.if_icmp .ge 54, 3) := by decide +kernel
theorem dX0_cutWeeks_33 : decode cX0_cutWeeks 33 = .ok (.iload_n 1, 1) := by decide +kernel
theorem dX0_cutWeeks_34 : decode cX0_cutWeeks 34 = .ok (.aload_n 0, 1) := by decide +kernel
theorem dX0_cutWeeks_35 : decode cX0_cutWeeks 35 = .ok (.getfield 12, 3) := by decide +kernel
theorem dX0_cutWeeks_38 : decode cX0_cutWeeks 38 = .ok (.getfield 63, 3) := by decide +kernel
theorem dX0_cutWeeks_41 : decode cX0_cutWeeks 41 = .ok (.if_icmp .eq 17, 3) := by decide +kernel
theorem dX0_cutWeeks_44 : decode cX0_cutWeeks 44 = .ok (.iload_n 1, 1) := by decide +kernel
theorem dX0_cutWeeks_45 : decode cX0_cutWeeks 45 = .ok (.bipush 7, 2) := by decide +kernel
theorem dX0_cutWeeks_47 : decode cX0_cutWeeks 47 = .ok (.irem, 1) := by decide +kernel
theorem dX0_cutWeeks_48 : decode cX0_cutWeeks 48 = .ok (.aload_n 0, 1) := by decide +kernel
theorem dX0_cutWeeks_49 : decode cX0_cutWeeks 49 = .ok (.getfield 12, 3) := by decide +kernel
theorem dX0_cutWeeks_52 : decode cX0_cutWeeks 52 = .ok (.getfield 69, 3) := by decide +kernel
theorem dX0_cutWeeks_55 : decode cX0_cutWeeks 55 = .ok (.if_icmp .ne 23, 3) := by decide +kernel
theorem dX0_cutWeeks_58 : decode cX0_cutWeeks 58 = .ok (.aload_n 0, 1) := by decide +kernel
theorem dX0_cutWeeks_59 : decode cX0_cutWeeks 59 = .ok (.getfield 22, 3) := by decide +kernel
theorem dX0_cutWeeks_62 : decode cX0_cutWeeks 62 = .ok (.aload_n 0, 1) := by decide +kernel
theorem dX0_cutWeeks_63 : decode cX0_cutWeeks 63 = .ok (.getfield 18, 3) := by decide +kernel
theorem dX0_cutWeeks_66 : decode cX0_cutWeeks 66 = .ok (.iload_n 1, 1) := by decide +kernel
theorem dX0_cutWeeks_67 : decode cX0_cutWeeks 67 = .ok (.iastore, 1) := by decide +kernel
theorem dX0_cutWeeks_68 : decode cX0_cutWeeks 68 = .ok (.aload_n 0, 1) := by decide +kernel
theorem dX0_cutWeeks_69 : decode cX0_cutWeeks 69 = .ok (.dup, 1) := by decide +kernel
theorem dX0_cutWeeks_70 : decode cX0_cutWeeks 70 = .ok (.getfield 18, 3) := by decide +kernel
theorem dX0_cutWeeks_73 : decode cX0_cutWeeks 73 = .ok (.iconst 1, 1) := by decide +kernel
theorem dX0_cutWeeks_74 : decode cX0_cutWeeks 74 = .ok (.iadd, 1) := by decide +kernel
theorem dX0_cutWeeks_75 : decode cX0_cutWeeks 75 = .ok (.putfield 18, 3) := by decide +kernel
theorem dX0_cutWeeks_78 : decode cX0_cutWeeks 78 = .ok (.iinc 1 1, 3) := by decide +kernel
theorem dX0_cutWeeks_81 : decode cX0_cutWeeks 81 = .ok (.goto (-68), 3) := by decide +kernel
theorem dX0_cutWeeks_84 : decode cX0_cutWeeks 84 = .ok (.aload_n 0, 1) := by decide +kernel
theorem dX0_cutWeeks_85 : decode cX0_cutWeeks 85 = .ok (.getfield 22, 3) := by decide +kernel
theorem dX0_cutWeeks_88 : decode cX0_cutWeeks 88 = .ok (.aload_n 0, 1) := by decide +kernel
theorem dX0_cutWeeks_89 : decode cX0_cutWeeks 89 = .ok (.getfield 18, 3) := by decide +kernel
theorem dX0_cutWeeks_92 : decode cX0_cutWeeks 92 = .ok (.aload_n 0, 1) := by decide +kernel
theorem dX0_cutWeeks_93 : decode cX0_cutWeeks 93 = .ok (.getfield 12, 3) := by decide +kernel
theorem dX0_cutWeeks_96 : decode cX0_cutWeeks 96 = .ok (.getfield 66, 3) := by decide +kernel
theorem dX0_cutWeeks_99 : decode cX0_cutWeeks 99 = .ok (.iconst 1, 1) := by decide +kernel
theorem dX0_cutWeeks_100 : decode cX0_cutWeeks 100 = .ok (.iadd, 1) := by decide +kernel
theorem dX0_cutWeeks_101 : decode cX0_cutWeeks 101 = .ok (.iastore, 1) := by decide +kernel
theorem dX0_cutWeeks_102 : decode cX0_cutWeeks 102 = .ok (.return_, 1) := by decide +kernel
theorem dX0_wipe_0 : decode cX0_wipe 0 = .ok (.iconst 0, 1) := by decide +kernel
theorem dX0_wipe_1 : decode cX0_wipe 1 = .ok (.istore_n 1, 1) := by decide +kernel
theorem dX0_wipe_2 : decode cX0_wipe 2 = .ok (.iload_n 1, 1) := by decide +kernel
theorem dX0_wipe_3 : decode cX0_wipe 3 = .ok (.bipush 42, 2) := by decide +kernel
theorem dX0_wipe_5 : decode cX0_wipe 5 = .ok (.if_icmp .ge 16, 3) := by decide +kernel
theorem dX0_wipe_8 : decode cX0_wipe 8 = .ok (.aload_n 0, 1) := by decide +kernel
theorem dX0_wipe_9 : decode cX0_wipe 9 = .ok (.getfield 34, 3) := by decide +kernel
theorem dX0_wipe_12 : decode cX0_wipe 12 = .ok (.iload_n 1, 1) := by decide +kernel
theorem dX0_wipe_13 : decode cX0_wipe 13 = .ok (.iconst 0, 1) := by decide +kernel
theorem dX0_wipe_14 : decode cX0_wipe 14 = .ok (.iastore, 1) := by decide +kernel
theorem dX0_wipe_15 : decode cX0_wipe 15 = .ok (.iinc 1 1, 3) := by decide +kernel
theorem dX0_wipe_18 : decode cX0_wipe 18 = .ok (.goto (-16), 3) := by decide +kernel
theorem dX0_wipe_21 : decode cX0_wipe 21 = .ok (.iconst 0, 1) := by decide +kernel
theorem dX0_wipe_22 : decode cX0_wipe 22 = .ok (.istore_n 1, 1) := by decide +kernel
theorem dX0_wipe_23 : decode cX0_wipe 23 = .ok (.iload_n 1, 1) := by decide +kernel
theorem dX0_wipe_24 : decode cX0_wipe 24 = .ok (.bipush 24, 2) := by decide +kernel
theorem dX0_wipe_26 : decode cX0_wipe 26 = .ok (.if_icmp .ge 41, 3) := by decide +kernel
theorem dX0_wipe_29 : decode cX0_wipe 29 = .ok (.aload_n 0, 1) := by decide +kernel
theorem dX0_wipe_30 : decode cX0_wipe 30 = .ok (.getfield 31, 3) := by decide +kernel
theorem dX0_wipe_33 : decode cX0_wipe 33 = .ok (.iload_n 1, 1) := by decide +kernel
theorem dX0_wipe_34 : decode cX0_wipe 34 = .ok (.bipush (-9), 2) := by decide +kernel
theorem dX0_wipe_36 : decode cX0_wipe 36 = .ok (.iastore, 1) := by decide +kernel
theorem dX0_wipe_37 : decode cX0_wipe 37 = .ok (.iconst 0, 1) := by decide +kernel
theorem dX0_wipe_38 : decode cX0_wipe 38 = .ok (.istore_n 2, 1) := by decide +kernel
theorem dX0_wipe_39 : decode cX0_wipe 39 = .ok (.iload_n 2, 1) := by decide +kernel
theorem dX0_wipe_40 : decode cX0_wipe 40 = .ok (.bipush 7, 2) := by decide +kernel
theorem dX0_wipe_42 : decode cX0_wipe 42 = .ok (.if_icmp .ge 19, 3) := by decide +kernel
theorem dX0_wipe_45 : decode cX0_wipe 45 = .ok (.aload_n 0, 1) := by decide +kernel
theorem dX0_wipe_46 : decode cX0_wipe 46 = .ok (.getfield 28, 3) := by decide +kernel
theorem dX0_wipe_49 : decode cX0_wipe 49 = .ok (.iload_n 1, 1) := by decide +kernel
theorem dX0_wipe_50 : decode cX0_wipe 50 = .ok (.aaload, 1) := by decide +kernel
theorem dX0_wipe_51 : decode cX0_wipe 51 = .ok (.iload_n 2, 1) := by decide +kernel
theorem dX0_wipe_52 : decode cX0_wipe 52 = .ok (.bipush (-9), 2) := by decide +kernel
theorem dX0_wipe_54 : decode cX0_wipe 54 = .ok (.iastore, 1) := by decide +kernel
theorem dX0_wipe_55 : decode cX0_wipe 55 = .ok (.iinc 2 1, 3) := by decide +kernel
theorem dX0_wipe_58 : decode cX0_wipe 58 = .ok (.goto (-19), 3) := by decide +kernel
theorem dX0_wipe_61 : decode cX0_wipe 61 = .ok (.iinc 1 1, 3) := by decide +kernel
theorem dX0_wipe_64 : decode cX0_wipe 64 = .ok (.goto (-41), 3) := by decide +kernel
theorem dX0_wipe_67 : decode cX0_wipe 67 = .ok (.return_, 1) := by decide +kernel
theorem dX0_orderBars_0 : decode cX0_orderBars 0 = .ok (.aload_n 0, 1) := by decide +kernel
theorem dX0_orderBars_1 : decode cX0_orderBars 1 = .ok (.iconst 0, 1) := by decide +kernel
theorem dX0_orderBars_2 : decode cX0_orderBars 2 = .ok (.putfield 40, 3) := by decide +kernel
theorem dX0_orderBars_5 : decode cX0_orderBars 5 = .ok (.iconst 0, 1) := by decide +kernel
theorem dX0_orderBars_6 : decode cX0_orderBars 6 = .ok (.istore_n 2, 1) := by decide +kernel
theorem dX0_orderBars_7 : decode cX0_orderBars 7 = .ok (.iload_n 2, 1) := by decide +kernel
theorem dX0_orderBars_8 : decode cX0_orderBars 8 = .ok (.aload_n 0, 1) := by decide +kernel
theorem dX0_orderBars_9 : decode cX0_orderBars 9 = .ok (.getfield 12, 3) := by decide +kernel
theorem dX0_orderBars_12 : decode cX0_orderBars 12 = .ok (.getfield 72, 3) := by decide +kernel
theorem dX0_orderBars_15 : decode cX0_orderBars 15 = .ok (.if_icmp .ge 104, 3) := by decide +kernel
theorem dX0_orderBars_18 : decode cX0_orderBars 18 = .ok (.aload_n 0, 1) := by decide +kernel
theorem dX0_orderBars_19 : decode cX0_orderBars 19 = .ok (.getfield 12, 3) := by decide +kernel
theorem dX0_orderBars_22 : decode cX0_orderBars 22 = .ok (.iload_n 2, 1) := by decide +kernel
theorem dX0_orderBars_23 : decode cX0_orderBars 23 = .ok (.invokevirtual 75, 3) := by decide +kernel
theorem dX0_orderBars_26 : decode cX0_orderBars 26 = .ok (.ifCond .eq 87, 3) := by decide +kernel
theorem dX0_orderBars_29 : decode cX0_orderBars 29 = .ok (.aload_n 0, 1) := by decide +kernel
theorem dX0_orderBars_30 : decode cX0_orderBars 30 = .ok (.getfield 12, 3) := by decide +kernel
theorem dX0_orderBars_33 : decode cX0_orderBars 33 = .ok (.iload_n 2, 1) := by decide +kernel
theorem dX0_orderBars_34 : decode cX0_orderBars 34 = .ok (.aload_n 0, 1) := by decide +kernel
theorem dX0_orderBars_35 : decode cX0_orderBars 35 = .ok (.iload_n 1, 1) := by decide +kernel
theorem dX0_orderBars_36 : decode cX0_orderBars 36 = .ok (.invokevirtual 79, 3) := by decide +kernel
theorem dX0_orderBars_39 : decode cX0_orderBars 39 = .ok (.aload_n 0, 1) := by decide +kernel
theorem dX0_orderBars_40 : decode cX0_orderBars 40 = .ok (.iload_n 1, 1) := by decide +kernel
theorem dX0_orderBars_41 : decode cX0_orderBars 41 = .ok (.invokevirtual 83, 3) := by decide +kernel
theorem dX0_orderBars_44 : decode cX0_orderBars 44 = .ok (.invokevirtual 86, 3) := by decide +kernel
theorem dX0_orderBars_47 : decode cX0_orderBars 47 = .ok (.ifCond .eq 66, 3) := by decide +kernel
theorem dX0_orderBars_50 : decode cX0_orderBars 50 = .ok (.aload_n 0, 1) := by decide +kernel
theorem dX0_orderBars_51 : decode cX0_orderBars 51 = .ok (.getfield 40, 3) := by decide +kernel
theorem dX0_orderBars_54 : decode cX0_orderBars 54 = .ok (.istore_n 3, 1) := by decide +kernel
theorem dX0_orderBars_55 : decode cX0_orderBars 55 = .ok (.iload_n 3, 1) := by decide +kernel
theorem dX0_orderBars_56 : decode cX0_orderBars 56 = .ok (.ifCond .le 40, 3) := by decide +kernel
theorem dX0_orderBars_59 : decode cX0_orderBars 59 = .ok (.aload_n 0, 1) := by decide +kernel
theorem dX0_orderBars_60 : decode cX0_orderBars 60 = .ok (.iload_n 2, 1) := by decide +kernel
theorem dX0_orderBars_61 : decode cX0_orderBars 61 = .ok (.aload_n 0, 1) := by decide +kernel
theorem dX0_orderBars_62 : decode cX0_orderBars 62 = .ok (.getfield 37, 3) := by decide +kernel
theorem dX0_orderBars_65 : decode cX0_orderBars 65 = .ok (.iload_n 3, 1) := by decide +kernel
theorem dX0_orderBars_66 : decode cX0_orderBars 66 = .ok (.iconst 1, 1) := by decide +kernel
theorem dX0_orderBars_67 : decode cX0_orderBars 67 = .ok (.isub, 1) := by decide +kernel
theorem dX0_orderBars_68 : decode cX0_orderBars 68 = .ok (.iaload, 1) := by decide +kernel
theorem dX0_orderBars_69 : decode cX0_orderBars 69 = .ok (.iload_n 1, 1) := by decide +kernel
theorem dX0_orderBars_70 : decode cX0_orderBars 70 = .ok (.invokevirtual 90, 3) := by decide +kernel
theorem dX0_orderBars_73 : decode cX0_orderBars 73 = .ok (.ifCond .eq 23, 3) := by decide +kernel
theorem dX0_orderBars_76 : decode cX0_orderBars 76 = .ok (.aload_n 0, 1) := by decide +kernel
theorem dX0_orderBars_77 : decode cX0_orderBars 77 = .ok (.getfield 37, 3) := by decide +kernel
theorem dX0_orderBars_80 : decode cX0_orderBars 80 = .ok (.iload_n 3, 1) := by decide +kernel
theorem dX0_orderBars_81 : decode cX0_orderBars 81 = .ok (.aload_n 0, 1) := by decide +kernel
theorem dX0_orderBars_82 : decode cX0_orderBars 82 = .ok (.getfield 37, 3) := by decide +kernel
theorem dX0_orderBars_85 : decode cX0_orderBars 85 = .ok (.iload_n 3, 1) := by decide +kernel
theorem dX0_orderBars_86 : decode cX0_orderBars 86 = .ok (.iconst 1, 1) := by decide +kernel
theorem dX0_orderBars_87 : decode cX0_orderBars 87 = .ok (.isub, 1) := by decide +kernel
theorem dX0_orderBars_88 : decode cX0_orderBars 88 = .ok (.iaload, 1) := by decide +kernel
theorem dX0_orderBars_89 : decode cX0_orderBars 89 = .ok (.iastore, 1) := by decide +kernel
theorem dX0_orderBars_90 : decode cX0_orderBars 90 = .ok (.iinc 3 (-1), 3) := by decide +kernel
theorem dX0_orderBars_93 : decode cX0_orderBars 93 = .ok (.goto (-38), 3) := by decide +kernel
theorem dX0_orderBars_96 : decode cX0_orderBars 96 = .ok (.aload_n 0, 1) := by decide +kernel
theorem dX0_orderBars_97 : decode cX0_orderBars 97 = .ok (.getfield 37, 3) := by decide +kernel
theorem dX0_orderBars_100 : decode cX0_orderBars 100 = .ok (.iload_n 3, 1) := by decide +kernel
theorem dX0_orderBars_101 : decode cX0_orderBars 101 = .ok (.iload_n 2, 1) := by decide +kernel
theorem dX0_orderBars_102 : decode cX0_orderBars 102 = .ok (.iastore, 1) := by decide +kernel
theorem dX0_orderBars_103 : decode cX0_orderBars 103 = .ok (.aload_n 0, 1) := by decide +kernel
theorem dX0_orderBars_104 : decode cX0_orderBars 104 = .ok (.dup, 1) := by decide +kernel
theorem dX0_orderBars_105 : decode cX0_orderBars 105 = .ok (.getfield 40, 3) := by decide +kernel
theorem dX0_orderBars_108 : decode cX0_orderBars 108 = .ok (.iconst 1, 1) := by decide +kernel
theorem dX0_orderBars_109 : decode cX0_orderBars 109 = .ok (.iadd, 1) := by decide +kernel
theorem dX0_orderBars_110 : decode cX0_orderBars 110 = .ok (.putfield 40, 3) := by decide +kernel
theorem dX0_orderBars_113 : decode cX0_orderBars 113 = .ok (.iinc 2 1, 3) := by decide +kernel
theorem dX0_orderBars_116 : decode cX0_orderBars 116 = .ok (.goto (-109), 3) := by decide +kernel
theorem dX0_orderBars_119 : decode cX0_orderBars 119 = .ok (.return_, 1) := by decide +kernel
theorem dX0_isBarBefore_0 : decode cX0_isBarBefore 0 = .ok (.aload_n 0, 1) := by decide +kernel
theorem dX0_isBarBefore_1 : decode cX0_isBarBefore 1 = .ok (.getfield 12, 3) := by decide +kernel
theorem dX0_isBarBefore_4 : decode cX0_isBarBefore 4 = .ok (.getfield 93, 3) := by decide +kernel
theorem dX0_isBarBefore_7 : decode cX0_isBarBefore 7 = .ok (.iload_n 1, 1) := by decide +kernel
theorem dX0_isBarBefore_8 : decode cX0_isBarBefore 8 = .ok (.iaload, 1) := by decide +kernel
theorem dX0_isBarBefore_9 : decode cX0_isBarBefore 9 = .ok (.aload_n 0, 1) := by decide +kernel
theorem dX0_isBarBefore_10 : decode cX0_isBarBefore 10 = .ok (.iload_n 3, 1) := by decide +kernel
theorem dX0_isBarBefore_11 : decode cX0_isBarBefore 11 = .ok (.invokevirtual 79, 3) := by decide +kernel
theorem dX0_isBarBefore_14 : decode cX0_isBarBefore 14 = .ok (.if_icmp .ge 7, 3) := by decide +kernel
theorem dX0_isBarBefore_17 : decode cX0_isBarBefore 17 = .ok (.iconst 1, 1) := by decide +kernel
theorem dX0_isBarBefore_18 : decode cX0_isBarBefore 18 = .ok (.goto 4, 3) := by decide +kernel
theorem dX0_isBarBefore_21 : decode cX0_isBarBefore 21 = .ok (.iconst 0, 1) := by decide +kernel
theorem dX0_isBarBefore_22 : decode cX0_isBarBefore 22 = .ok (.istore 4, 2) := by decide +kernel
theorem dX0_isBarBefore_24 : decode cX0_isBarBefore 24 = .ok (.aload_n 0, 1) := by decide +kernel
theorem dX0_isBarBefore_25 : decode cX0_isBarBefore 25 = .ok (.getfield 12, 3) := by decide +kernel
theorem dX0_isBarBefore_28 : decode cX0_isBarBefore 28 = .ok (.getfield 93, 3) := by decide +kernel
theorem dX0_isBarBefore_31 : decode cX0_isBarBefore 31 = .ok (.iload_n 2, 1) := by decide +kernel
theorem dX0_isBarBefore_32 : decode cX0_isBarBefore 32 = .ok (.iaload, 1) := by decide +kernel
theorem dX0_isBarBefore_33 : decode cX0_isBarBefore 33 = .ok (.aload_n 0, 1) := by decide +kernel
theorem dX0_isBarBefore_34 : decode cX0_isBarBefore 34 = .ok (.iload_n 3, 1) := by decide +kernel
theorem dX0_isBarBefore_35 : decode cX0_isBarBefore 35 = .ok (.invokevirtual 79, 3) := by decide +kernel
theorem dX0_isBarBefore_38 : decode cX0_isBarBefore 38 = .ok (.if_icmp .ge 7, 3) := by decide +kernel
theorem dX0_isBarBefore_41 : decode cX0_isBarBefore 41 = .ok (.iconst 1, 1) := by decide +kernel
theorem dX0_isBarBefore_42 : decode cX0_isBarBefore 42 = .ok (.goto 4, 3) := by decide +kernel
theorem dX0_isBarBefore_45 : decode cX0_isBarBefore 45 = .ok (.iconst 0, 1) := by decide +kernel
theorem dX0_isBarBefore_46 : decode cX0_isBarBefore 46 = .ok (.istore 5, 2) := by decide +kernel
theorem dX0_isBarBefore_48 : decode cX0_isBarBefore 48 = .ok (.iload 4, 2) := by decide +kernel
theorem dX0_isBarBefore_50 : decode cX0_isBarBefore 50 = .ok (.iload 5, 2) := by decide +kernel
theorem dX0_isBarBefore_52 : decode cX0_isBarBefore 52 = .ok (.if_icmp .eq 6, 3) := by decide +kernel
theorem dX0_isBarBefore_55 : decode cX0_isBarBefore 55 = .ok (.iload 4, 2) := by decide +kernel
theorem dX0_isBarBefore_57 : decode cX0_isBarBefore 57 = .ok (.ireturn, 1) := by decide +kernel
theorem dX0_isBarBefore_58 : decode cX0_isBarBefore 58 = .ok (.iload 4, 2) := by decide +kernel
theorem dX0_isBarBefore_60 : decode cX0_isBarBefore 60 = .ok (.ifCond .eq 36, 3) := by decide +kernel
theorem dX0_isBarBefore_63 : decode cX0_isBarBefore 63 = .ok (.iload_n 3, 1) := by decide +kernel
theorem dX0_isBarBefore_64 : decode cX0_isBarBefore 64 = .ok (.ifCond .le 30, 3) := by decide +kernel
theorem dX0_isBarBefore_67 : decode cX0_isBarBefore 67 = .ok (.aload_n 0, 1) := by decide +kernel
theorem dX0_isBarBefore_68 : decode cX0_isBarBefore 68 = .ok (.getfield 28, 3) := by decide +kernel
theorem dX0_isBarBefore_71 : decode cX0_isBarBefore 71 = .ok (.iload_n 1, 1) := by decide +kernel
theorem dX0_isBarBefore_72 : decode cX0_isBarBefore 72 = .ok (.aaload, 1) := by decide +kernel
theorem dX0_isBarBefore_73 : decode cX0_isBarBefore 73 = .ok (.iload_n 3, 1) := by decide +kernel
theorem dX0_isBarBefore_74 : decode cX0_isBarBefore 74 = .ok (.iconst 1, 1) := by decide +kernel
theorem dX0_isBarBefore_75 : decode cX0_isBarBefore 75 = .ok (.isub, 1) := by decide +kernel
theorem dX0_isBarBefore_76 : decode cX0_isBarBefore 76 = .ok (.iaload, 1) := by decide +kernel
theorem dX0_isBarBefore_77 : decode cX0_isBarBefore 77 = .ok (.aload_n 0, 1) := by decide +kernel
theorem dX0_isBarBefore_78 : decode cX0_isBarBefore 78 = .ok (.getfield 28, 3) := by decide +kernel
theorem dX0_isBarBefore_81 : decode cX0_isBarBefore 81 = .ok (.iload_n 2, 1) := by decide +kernel
theorem dX0_isBarBefore_82 : decode cX0_isBarBefore 82 = .ok (.aaload, 1) := by decide +kernel
theorem dX0_isBarBefore_83 : decode cX0_isBarBefore 83 = .ok (.iload_n 3, 1) := by decide +kernel
theorem dX0_isBarBefore_84 : decode cX0_isBarBefore 84 = .ok (.iconst 1, 1) := by decide +kernel
theorem dX0_isBarBefore_85 : decode cX0_isBarBefore 85 = .ok (.isub, 1) := by decide +kernel
theorem dX0_isBarBefore_86 : decode cX0_isBarBefore 86 = .ok (.iaload, 1) := by decide +kernel
theorem dX0_isBarBefore_87 : decode cX0_isBarBefore 87 = .ok (.if_icmp .ge 7, 3) := by decide +kernel
theorem dX0_isBarBefore_90 : decode cX0_isBarBefore 90 = .ok (.iconst 1, 1) := by decide +kernel
theorem dX0_isBarBefore_91 : decode cX0_isBarBefore 91 = .ok (.goto 4, 3) := by decide +kernel
theorem dX0_isBarBefore_94 : decode cX0_isBarBefore 94 = .ok (.iconst 0, 1) := by decide +kernel
theorem dX0_isBarBefore_95 : decode cX0_isBarBefore 95 = .ok (.ireturn, 1) := by decide +kernel
theorem dX0_isBarBefore_96 : decode cX0_isBarBefore 96 = .ok (.aload_n 0, 1) := by decide +kernel
theorem dX0_isBarBefore_97 : decode cX0_isBarBefore 97 = .ok (.getfield 12, 3) := by decide +kernel
theorem dX0_isBarBefore_100 : decode cX0_isBarBefore 100 = .ok (.getfield 93, 3) := by decide +kernel
theorem dX0_isBarBefore_103 : decode cX0_isBarBefore 103 = .ok (.iload_n 1, 1) := by decide +kernel
theorem dX0_isBarBefore_104 : decode cX0_isBarBefore 104 = .ok (.iaload, 1) := by decide +kernel
theorem dX0_isBarBefore_105 : decode cX0_isBarBefore 105 = .ok (.aload_n 0, 1) := by decide +kernel
theorem dX0_isBarBefore_106 : decode cX0_isBarBefore 106 = .ok (.getfield 12, 3) := by decide +kernel
theorem dX0_isBarBefore_109 : decode cX0_isBarBefore 109 = .ok (.getfield 93, 3) := by decide +kernel
theorem dX0_isBarBefore_112 : decode cX0_isBarBefore 112 = .ok (.iload_n 2, 1) := by decide +kernel
theorem dX0_isBarBefore_113 : decode cX0_isBarBefore 113 = .ok (.iaload, 1) := by decide +kernel
theorem dX0_isBarBefore_114 : decode cX0_isBarBefore 114 = .ok (.if_icmp .eq 30, 3) := by decide +kernel
theorem dX0_isBarBefore_117 : decode cX0_isBarBefore 117 = .ok (.aload_n 0, 1) := by decide +kernel
theorem dX0_isBarBefore_118 : decode cX0_isBarBefore 118 = .ok (.getfield 12, 3) := by decide +kernel
theorem dX0_isBarBefore_121 : decode cX0_isBarBefore 121 = .ok (.getfield 93, 3) := by decide +kernel
theorem dX0_isBarBefore_124 : decode cX0_isBarBefore 124 = .ok (.iload_n 1, 1) := by decide +kernel
theorem dX0_isBarBefore_125 : decode cX0_isBarBefore 125 = .ok (.iaload, 1) := by decide +kernel
theorem dX0_isBarBefore_126 : decode cX0_isBarBefore 126 = .ok (.aload_n 0, 1) := by decide +kernel
theorem dX0_isBarBefore_127 : decode cX0_isBarBefore 127 = .ok (.getfield 12, 3) := by decide +kernel
theorem dX0_isBarBefore_130 : decode cX0_isBarBefore 130 = .ok (.getfield 93, 3) := by decide +kernel
theorem dX0_isBarBefore_133 : decode cX0_isBarBefore 133 = .ok (.iload_n 2, 1) := by decide +kernel
theorem dX0_isBarBefore_134 : decode cX0_isBarBefore 134 = .ok (.iaload, 1) := by decide +kernel
theorem dX0_isBarBefore_135 : decode cX0_isBarBefore 135 = .ok (.if_icmp .ge 7, 3) := by decide +kernel
theorem dX0_isBarBefore_138 : decode cX0_isBarBefore 138 = .ok (.iconst 1, 1) := by decide +kernel
theorem dX0_isBarBefore_139 : decode cX0_isBarBefore 139 = .ok (.goto 4, 3) := by decide +kernel
theorem dX0_isBarBefore_142 : decode cX0_isBarBefore 142 = .ok (.iconst 0, 1) := by decide +kernel
theorem dX0_isBarBefore_143 : decode cX0_isBarBefore 143 = .ok (.ireturn, 1) := by decide +kernel
theorem dX0_isBarBefore_144 : decode cX0_isBarBefore 144 = .ok (.aload_n 0, 1) := by decide +kernel
theorem dX0_isBarBefore_145 : decode cX0_isBarBefore 145 = .ok (.getfield 12, 3) := by decide +kernel
theorem dX0_isBarBefore_148 : decode cX0_isBarBefore 148 = .ok (.getfield 96, 3) := by decide +kernel
theorem dX0_isBarBefore_151 : decode cX0_isBarBefore 151 = .ok (.iload_n 1, 1) := by decide +kernel
theorem dX0_isBarBefore_152 : decode cX0_isBarBefore 152 = .ok (.iaload, 1) := by decide +kernel
theorem dX0_isBarBefore_153 : decode cX0_isBarBefore 153 = .ok (.aload_n 0, 1) := by decide +kernel
theorem dX0_isBarBefore_154 : decode cX0_isBarBefore 154 = .ok (.getfield 12, 3) := by decide +kernel
theorem dX0_isBarBefore_157 : decode cX0_isBarBefore 157 = .ok (.getfield 96, 3) := by decide +kernel
theorem dX0_isBarBefore_160 : decode cX0_isBarBefore 160 = .ok (.iload_n 2, 1) := by decide +kernel
theorem dX0_isBarBefore_161 : decode cX0_isBarBefore 161 = .ok (.iaload, 1) := by decide +kernel
theorem dX0_isBarBefore_162 : decode cX0_isBarBefore 162 = .ok (.if_icmp .eq 30, 3) := by decide +kernel
theorem dX0_isBarBefore_165 : decode cX0_isBarBefore 165 = .ok (.aload_n 0, 1) := by decide +kernel
theorem dX0_isBarBefore_166 : decode cX0_isBarBefore 166 = .ok (.getfield 12, 3) := by decide +kernel
theorem dX0_isBarBefore_169 : decode cX0_isBarBefore 169 = .ok (.getfield 96, 3) := by decide +kernel
theorem dX0_isBarBefore_172 : decode cX0_isBarBefore 172 = .ok (.iload_n 1, 1) := by decide +kernel
theorem dX0_isBarBefore_173 : decode cX0_isBarBefore 173 = .ok (.iaload, 1) := by decide +kernel
theorem dX0_isBarBefore_174 : decode cX0_isBarBefore 174 = .ok (.aload_n 0, 1) := by decide +kernel
theorem dX0_isBarBefore_175 : decode cX0_isBarBefore 175 = .ok (.getfield 12, 3) := by decide +kernel
theorem dX0_isBarBefore_178 : decode cX0_isBarBefore 178 = .ok (.getfield 96, 3) := by decide +kernel
theorem dX0_isBarBefore_181 : decode cX0_isBarBefore 181 = .ok (.iload_n 2, 1) := by decide +kernel
theorem dX0_isBarBefore_182 : decode cX0_isBarBefore 182 = .ok (.iaload, 1) := by decide +kernel
theorem dX0_isBarBefore_183 : decode cX0_isBarBefore 183 = .ok (.if_icmp .le 7, 3) := by decide +kernel
theorem dX0_isBarBefore_186 : decode cX0_isBarBefore 186 = .ok (.iconst 1, 1) := by decide +kernel
theorem dX0_isBarBefore_187 : decode cX0_isBarBefore 187 = .ok (.goto 4, 3) := by decide +kernel
theorem dX0_isBarBefore_190 : decode cX0_isBarBefore 190 = .ok (.iconst 0, 1) := by decide +kernel
theorem dX0_isBarBefore_191 : decode cX0_isBarBefore 191 = .ok (.ireturn, 1) := by decide +kernel
theorem dX0_isBarBefore_192 : decode cX0_isBarBefore 192 = .ok (.aload_n 0, 1) := by decide +kernel
theorem dX0_isBarBefore_193 : decode cX0_isBarBefore 193 = .ok (.getfield 12, 3) := by decide +kernel
theorem dX0_isBarBefore_196 : decode cX0_isBarBefore 196 = .ok (.getfield 99, 3) := by decide +kernel
theorem dX0_isBarBefore_199 : decode cX0_isBarBefore 199 = .ok (.iload_n 1, 1) := by decide +kernel
theorem dX0_isBarBefore_200 : decode cX0_isBarBefore 200 = .ok (.iaload, 1) := by decide +kernel
theorem dX0_isBarBefore_201 : decode cX0_isBarBefore 201 = .ok (.aload_n 0, 1) := by decide +kernel
theorem dX0_isBarBefore_202 : decode cX0_isBarBefore 202 = .ok (.getfield 12, 3) := by decide +kernel
theorem dX0_isBarBefore_205 : decode cX0_isBarBefore 205 = .ok (.getfield 99, 3) := by decide +kernel
theorem dX0_isBarBefore_208 : decode cX0_isBarBefore 208 = .ok (.iload_n 2, 1) := by decide +kernel
theorem dX0_isBarBefore_209 : decode cX0_isBarBefore 209 = .ok (.iaload, 1) := by decide +kernel
theorem dX0_isBarBefore_210 : decode cX0_isBarBefore 210 = .ok (.if_icmp .le 7, 3) := by decide +kernel
theorem dX0_isBarBefore_213 : decode cX0_isBarBefore 213 = .ok (.iconst 1, 1) := by decide +kernel
theorem dX0_isBarBefore_214 : decode cX0_isBarBefore 214 = .ok (.goto 4, 3) := by decide +kernel
theorem dX0_isBarBefore_217 : decode cX0_isBarBefore 217 = .ok (.iconst 0, 1) := by decide +kernel
theorem dX0_isBarBefore_218 : decode cX0_isBarBefore 218 = .ok (.ireturn, 1) := by decide +kernel
theorem dX0_layBar_0 : decode cX0_layBar 0 = .ok (.aload_n 0, 1) := by decide +kernel
theorem dX0_layBar_1 : decode cX0_layBar 1 = .ok (.getfield 12, 3) := by decide +kernel
theorem dX0_layBar_4 : decode cX0_layBar 4 = .ok (.getfield 93, 3) := by decide +kernel
theorem dX0_layBar_7 : decode cX0_layBar 7 = .ok (.iload_n 1, 1) := by decide +kernel
theorem dX0_layBar_8 : decode cX0_layBar 8 = .ok (.iaload, 1) := by decide +kernel
theorem dX0_layBar_9 : decode cX0_layBar 9 = .ok (.aload_n 0, 1) := by decide +kernel
theorem dX0_layBar_10 : decode cX0_layBar 10 = .ok (.iload_n 2, 1) := by decide +kernel
theorem dX0_layBar_11 : decode cX0_layBar 11 = .ok (.invokevirtual 79, 3) := by decide +kernel
theorem dX0_layBar_14 : decode cX0_layBar 14 = .ok (.invokestatic 102, 3) := by decide +kernel
theorem dX0_layBar_17 : decode cX0_layBar 17 = .ok (.aload_n 0, 1) := by decide +kernel
theorem dX0_layBar_18 : decode cX0_layBar 18 = .ok (.getfield 12, 3) := by decide +kernel
theorem dX0_layBar_21 : decode cX0_layBar 21 = .ok (.getfield 63, 3) := by decide +kernel
theorem dX0_layBar_24 : decode cX0_layBar 24 = .ok (.isub, 1) := by decide +kernel
theorem dX0_layBar_25 : decode cX0_layBar 25 = .ok (.istore_n 3, 1) := by decide +kernel
theorem dX0_layBar_26 : decode cX0_layBar 26 = .ok (.aload_n 0, 1) := by decide +kernel
theorem dX0_layBar_27 : decode cX0_layBar 27 = .ok (.getfield 12, 3) := by decide +kernel
theorem dX0_layBar_30 : decode cX0_layBar 30 = .ok (.getfield 96, 3) := by decide +kernel
theorem dX0_layBar_33 : decode cX0_layBar 33 = .ok (.iload_n 1, 1) := by decide +kernel
theorem dX0_layBar_34 : decode cX0_layBar 34 = .ok (.iaload, 1) := by decide +kernel
theorem dX0_layBar_35 : decode cX0_layBar 35 = .ok (.aload_n 0, 1) := by decide +kernel
theorem dX0_layBar_36 : decode cX0_layBar 36 = .ok (.iload_n 2, 1) := by decide +kernel
theorem dX0_layBar_37 : decode cX0_layBar 37 = .ok (.invokevirtual 83, 3) := by decide +kernel
theorem dX0_layBar_40 : decode cX0_layBar 40 = .ok (.invokestatic 108, 3) := by decide +kernel
theorem dX0_layBar_43 : decode cX0_layBar 43 = .ok (.aload_n 0, 1) := by decide +kernel
theorem dX0_layBar_44 : decode cX0_layBar 44 = .ok (.getfield 12, 3) := by decide +kernel
theorem dX0_layBar_47 : decode cX0_layBar 47 = .ok (.getfield 63, 3) := by decide +kernel
theorem dX0_layBar_50 : decode cX0_layBar 50 = .ok (.isub, 1) := by decide +kernel
theorem dX0_layBar_51 : decode cX0_layBar 51 = .ok (.istore 4, 2) := by decide +kernel
theorem dX0_layBar_53 : decode cX0_layBar 53 = .ok (.iconst 0, 1) := by decide +kernel
theorem dX0_layBar_54 : decode cX0_layBar 54 = .ok (.istore 5, 2) := by decide +kernel
theorem dX0_layBar_56 : decode cX0_layBar 56 = .ok (.iload_n 3, 1) := by decide +kernel
theorem dX0_layBar_57 : decode cX0_layBar 57 = .ok (.istore 6, 2) := by decide +kernel
theorem dX0_layBar_59 : decode cX0_layBar 59 = .ok (.iload 6, 2) := by decide +kernel
theorem dX0_layBar_61 : decode cX0_layBar 61 = .ok (.iload 4, 2) := by decide +kernel
theorem dX0_layBar_63 : decode cX0_layBar 63 = .ok (.if_icmp .gt 21, 3) := by decide +kernel
theorem dX0_layBar_66 : decode cX0_layBar 66 = .ok (.iload 5, 2) := by decide +kernel
theorem dX0_layBar_68 : decode cX0_layBar 68 = .ok (.aload_n 0, 1) := by decide +kernel
theorem dX0_layBar_69 : decode cX0_layBar 69 = .ok (.getfield 34, 3) := by decide +kernel
theorem dX0_layBar_72 : decode cX0_layBar 72 = .ok (.iload 6, 2) := by decide +kernel
theorem dX0_layBar_74 : decode cX0_layBar 74 = .ok (.iaload, 1) := by decide +kernel
theorem dX0_layBar_75 : decode cX0_layBar 75 = .ok (.ior, 1) := by decide +kernel
theorem dX0_layBar_76 : decode cX0_layBar 76 = .ok (.istore 5, 2) := by decide +kernel
theorem dX0_layBar_78 : decode cX0_layBar 78 = .ok (.iinc 6 1, 3) := by decide +kernel
theorem dX0_layBar_81 : decode cX0_layBar 81 = .ok (.goto (-22), 3) := by decide +kernel
theorem dX0_layBar_84 : decode cX0_layBar 84 = .ok (.iload_n 2, 1) := by decide +kernel
theorem dX0_layBar_85 : decode cX0_layBar 85 = .ok (.ifCond .le 16, 3) := by decide +kernel
theorem dX0_layBar_88 : decode cX0_layBar 88 = .ok (.aload_n 0, 1) := by decide +kernel
theorem dX0_layBar_89 : decode cX0_layBar 89 = .ok (.getfield 28, 3) := by decide +kernel
theorem dX0_layBar_92 : decode cX0_layBar 92 = .ok (.iload_n 1, 1) := by decide +kernel
theorem dX0_layBar_93 : decode cX0_layBar 93 = .ok (.aaload, 1) := by decide +kernel
theorem dX0_layBar_94 : decode cX0_layBar 94 = .ok (.iload_n 2, 1) := by decide +kernel
theorem dX0_layBar_95 : decode cX0_layBar 95 = .ok (.iconst 1, 1) := by decide +kernel
theorem dX0_layBar_96 : decode cX0_layBar 96 = .ok (.isub, 1) := by decide +kernel
theorem dX0_layBar_97 : decode cX0_layBar 97 = .ok (.iaload, 1) := by decide +kernel
theorem dX0_layBar_98 : decode cX0_layBar 98 = .ok (.goto 5, 3) := by decide +kernel
theorem dX0_layBar_101 : decode cX0_layBar 101 = .ok (.bipush (-9), 2) := by decide +kernel
theorem dX0_layBar_103 : decode cX0_layBar 103 = .ok (.istore 6, 2) := by decide +kernel
theorem dX0_layBar_105 : decode cX0_layBar 105 = .ok (.iload 6, 2) := by decide +kernel
theorem dX0_layBar_107 : decode cX0_layBar 107 = .ok (.bipush (-9), 2) := by decide +kernel
theorem dX0_layBar_109 : decode cX0_layBar 109 = .ok (.if_icmp .eq 17, 3) := by decide +kernel
theorem dX0_layBar_112 : decode cX0_layBar 112 = .ok (.iload 5, 2) := by decide +kernel
theorem dX0_layBar_114 : decode cX0_layBar 114 = .ok (.iload 6, 2) := by decide +kernel
theorem dX0_layBar_116 : decode cX0_layBar 116 = .ok (.ishr, 1) := by decide +kernel
theorem dX0_layBar_117 : decode cX0_layBar 117 = .ok (.iconst 1, 1) := by decide +kernel
theorem dX0_layBar_118 : decode cX0_layBar 118 = .ok (.iand, 1) := by decide +kernel
theorem dX0_layBar_119 : decode cX0_layBar 119 = .ok (.ifCond .ne 7, 3) := by decide +kernel
theorem dX0_layBar_122 : decode cX0_layBar 122 = .ok (.iconst 1, 1) := by decide +kernel
theorem dX0_layBar_123 : decode cX0_layBar 123 = .ok (.goto 4, 3) := by decide +kernel
theorem dX0_layBar_126 : decode cX0_layBar 126 = .ok (.iconst 0, 1) := by decide +kernel
theorem dX0_layBar_127 : decode cX0_layBar 127 = .ok (.istore 7, 2) := by decide +kernel
theorem dX0_layBar_129 : decode cX0_layBar 129 = .ok (.iload 7, 2) := by decide +kernel
theorem dX0_layBar_131 : decode cX0_layBar 131 = .ok (.ifCond .eq 8, 3) := by decide +kernel
theorem dX0_layBar_134 : decode cX0_layBar 134 = .ok (.iload 6, 2) := by decide +kernel
theorem dX0_layBar_136 : decode cX0_layBar 136 = .ok (.goto 8, 3) := by decide +kernel
theorem dX0_layBar_139 : decode cX0_layBar 139 = .ok (.iload 5, 2) := by decide +kernel
theorem dX0_layBar_141 : decode cX0_layBar 141 = .ok (.invokestatic 111, 3) := by decide +kernel
theorem dX0_layBar_144 : decode cX0_layBar 144 = .ok (.istore 8, 2) := by decide +kernel
theorem dX0_layBar_146 : decode cX0_layBar 146 = .ok (.aload_n 0, 1) := by decide +kernel
theorem dX0_layBar_147 : decode cX0_layBar 147 = .ok (.getfield 28, 3) := by decide +kernel
theorem dX0_layBar_150 : decode cX0_layBar 150 = .ok (.iload_n 1, 1) := by decide +kernel
theorem dX0_layBar_151 : decode cX0_layBar 151 = .ok (.aaload, 1) := by decide +kernel
theorem dX0_layBar_152 : decode cX0_layBar 152 = .ok (.iload_n 2, 1) := by decide +kernel
theorem dX0_layBar_153 : decode cX0_layBar 153 = .ok (.iload 8, 2) := by decide +kernel
theorem dX0_layBar_155 : decode cX0_layBar 155 = .ok (.iastore, 1) := by decide +kernel
theorem dX0_layBar_156 : decode cX0_layBar 156 = .ok (.iload_n 3, 1) := by decide +kernel
theorem dX0_layBar_157 : decode cX0_layBar 157 = .ok (.istore 9, 2) := by decide +kernel
theorem dX0_layBar_159 : decode cX0_layBar 159 = .ok (.iload 9, 2) := by decide +kernel
theorem dX0_layBar_161 : decode cX0_layBar 161 = .ok (.iload 4, 2) := by decide +kernel
theorem dX0_layBar_163 : decode cX0_layBar 163 = .ok (.if_icmp .gt 23, 3) := by decide +kernel
theorem dX0_layBar_166 : decode cX0_layBar 166 = .ok (.aload_n 0, 1) := by decide +kernel
theorem dX0_layBar_167 : decode cX0_layBar 167 = .ok (.getfield 34, 3) := by decide +kernel
theorem dX0_layBar_170 : decode cX0_layBar 170 = .ok (.iload 9, 2) := by decide +kernel
theorem dX0_layBar_172 : decode cX0_layBar 172 = .ok (.dup2, 1) := by decide +kernel
theorem dX0_layBar_173 : decode cX0_layBar 173 = .ok (.iaload, 1) := by decide +kernel
theorem dX0_layBar_174 : decode cX0_layBar 174 = .ok (.iconst 1, 1) := by decide +kernel
theorem dX0_layBar_175 : decode cX0_layBar 175 = .ok (.iload 8, 2) := by decide +kernel
theorem dX0_layBar_177 : decode cX0_layBar 177 = .ok (.ishl, 1) := by decide +kernel
theorem dX0_layBar_178 : decode cX0_layBar 178 = .ok (.ior, 1) := by decide +kernel
theorem dX0_layBar_179 : decode cX0_layBar 179 = .ok (.iastore, 1) := by decide +kernel
theorem dX0_layBar_180 : decode cX0_layBar 180 = .ok (.iinc 9 1, 3) := by decide +kernel
theorem dX0_layBar_183 : decode cX0_layBar 183 = .ok (.goto (-24), 3) := by decide +kernel
theorem dX0_layBar_186 : decode cX0_layBar 186 = .ok (.return_, 1) := by decide +kernel
theorem dX0_orderShortOnes_0 : decode cX0_orderShortOnes 0 = .ok (.aload_n 0, 1) := by decide +kernel
theorem dX0_orderShortOnes_1 : decode cX0_orderShortOnes 1 = .ok (.iconst 0, 1) := by decide +kernel
theorem dX0_orderShortOnes_2 : decode cX0_orderShortOnes 2 = .ok (.putfield 40, 3) := by decide +kernel
theorem dX0_orderShortOnes_5 : decode cX0_orderShortOnes 5 = .ok (.iconst 0, 1) := by decide +kernel
theorem dX0_orderShortOnes_6 : decode cX0_orderShortOnes 6 = .ok (.istore_n 1, 1) := by decide +kernel
theorem dX0_orderShortOnes_7 : decode cX0_orderShortOnes 7 = .ok (.iload_n 1, 1) := by decide +kernel
theorem dX0_orderShortOnes_8 : decode cX0_orderShortOnes 8 = .ok (.aload_n 0, 1) := by decide +kernel
theorem dX0_orderShortOnes_9 : decode cX0_orderShortOnes 9 = .ok (.getfield 12, 3) := by decide +kernel
theorem dX0_orderShortOnes_12 : decode cX0_orderShortOnes 12 = .ok (.getfield 72, 3) := by decide +kernel
theorem dX0_orderShortOnes_15 : decode cX0_orderShortOnes 15 = .ok (.if_icmp .ge 107, 3) := by decide +kernel
theorem dX0_orderShortOnes_18 : decode cX0_orderShortOnes 18 = .ok (.aload_n 0, 1) := by decide +kernel
theorem dX0_orderShortOnes_19 : decode cX0_orderShortOnes 19 = .ok (.getfield 12, 3) := by decide +kernel
theorem dX0_orderShortOnes_22 : decode cX0_orderShortOnes 22 = .ok (.iload_n 1, 1) := by decide +kernel
theorem dX0_orderShortOnes_23 : decode cX0_orderShortOnes 23 = .ok (.invokevirtual 75, 3) := by decide +kernel
theorem dX0_orderShortOnes_26 : decode cX0_orderShortOnes 26 = .ok (.ifCond .ne 90, 3) := by decide +kernel
theorem dX0_orderShortOnes_29 : decode cX0_orderShortOnes 29 = .ok (.aload_n 0, 1) := by decide +kernel
theorem dX0_orderShortOnes_30 : decode cX0_orderShortOnes 30 = .ok (.getfield 12, 3) := by decide +kernel
theorem dX0_orderShortOnes_33 : decode cX0_orderShortOnes 33 = .ok (.iload_n 1, 1) := by decide +kernel
theorem dX0_orderShortOnes_34 : decode cX0_orderShortOnes 34 = .ok (.aload_n 0, 1) := by decide +kernel
theorem dX0_orderShortOnes_35 : decode cX0_orderShortOnes 35 = .ok (.getfield 12, 3) := by decide +kernel
theorem dX0_orderShortOnes_38 : decode cX0_orderShortOnes 38 = .ok (.getfield 63, 3) := by decide +kernel
theorem dX0_orderShortOnes_41 : decode cX0_orderShortOnes 41 = .ok (.aload_n 0, 1) := by decide +kernel
theorem dX0_orderShortOnes_42 : decode cX0_orderShortOnes 42 = .ok (.getfield 12, 3) := by decide +kernel
theorem dX0_orderShortOnes_45 : decode cX0_orderShortOnes 45 = .ok (.getfield 66, 3) := by decide +kernel
theorem dX0_orderShortOnes_48 : decode cX0_orderShortOnes 48 = .ok (.invokevirtual 86, 3) := by decide +kernel
theorem dX0_orderShortOnes_51 : decode cX0_orderShortOnes 51 = .ok (.ifCond .eq 65, 3) := by decide +kernel
theorem dX0_orderShortOnes_54 : decode cX0_orderShortOnes 54 = .ok (.aload_n 0, 1) := by decide +kernel
theorem dX0_orderShortOnes_55 : decode cX0_orderShortOnes 55 = .ok (.getfield 40, 3) := by decide +kernel
theorem dX0_orderShortOnes_58 : decode cX0_orderShortOnes 58 = .ok (.istore_n 2, 1) := by decide +kernel
theorem dX0_orderShortOnes_59 : decode cX0_orderShortOnes 59 = .ok (.iload_n 2, 1) := by decide +kernel
theorem dX0_orderShortOnes_60 : decode cX0_orderShortOnes 60 = .ok (.ifCond .le 39, 3) := by decide +kernel
theorem dX0_orderShortOnes_63 : decode cX0_orderShortOnes 63 = .ok (.aload_n 0, 1) := by decide +kernel
theorem dX0_orderShortOnes_64 : decode cX0_orderShortOnes 64 = .ok (.iload_n 1, 1) := by decide +kernel
theorem dX0_orderShortOnes_65 : decode cX0_orderShortOnes 65 = .ok (.aload_n 0, 1) := by decide +kernel
theorem dX0_orderShortOnes_66 : decode cX0_orderShortOnes 66 = .ok (.getfield 37, 3) := by decide +kernel
theorem dX0_orderShortOnes_69 : decode cX0_orderShortOnes 69 = .ok (.iload_n 2, 1) := by decide +kernel
theorem dX0_orderShortOnes_70 : decode cX0_orderShortOnes 70 = .ok (.iconst 1, 1) := by decide +kernel
theorem dX0_orderShortOnes_71 : decode cX0_orderShortOnes 71 = .ok (.isub, 1) := by decide +kernel
theorem dX0_orderShortOnes_72 : decode cX0_orderShortOnes 72 = .ok (.iaload, 1) := by decide +kernel
theorem dX0_orderShortOnes_73 : decode cX0_orderShortOnes 73 = .ok (.invokevirtual 114, 3) := by decide +kernel
theorem dX0_orderShortOnes_76 : decode cX0_orderShortOnes 76 = .ok (.ifCond .eq 23, 3) := by decide +kernel
theorem dX0_orderShortOnes_79 : decode cX0_orderShortOnes 79 = .ok (.aload_n 0, 1) := by decide +kernel
theorem dX0_orderShortOnes_80 : decode cX0_orderShortOnes 80 = .ok (.getfield 37, 3) := by decide +kernel
theorem dX0_orderShortOnes_83 : decode cX0_orderShortOnes 83 = .ok (.iload_n 2, 1) := by decide +kernel
theorem dX0_orderShortOnes_84 : decode cX0_orderShortOnes 84 = .ok (.aload_n 0, 1) := by decide +kernel
theorem dX0_orderShortOnes_85 : decode cX0_orderShortOnes 85 = .ok (.getfield 37, 3) := by decide +kernel
theorem dX0_orderShortOnes_88 : decode cX0_orderShortOnes 88 = .ok (.iload_n 2, 1) := by decide +kernel
theorem dX0_orderShortOnes_89 : decode cX0_orderShortOnes 89 = .ok (.iconst 1, 1) := by decide +kernel
theorem dX0_orderShortOnes_90 : decode cX0_orderShortOnes 90 = .ok (.isub, 1) := by decide +kernel
theorem dX0_orderShortOnes_91 : decode cX0_orderShortOnes 91 = .ok (.iaload, 1) := by decide +kernel
theorem dX0_orderShortOnes_92 : decode cX0_orderShortOnes 92 = .ok (.iastore, 1) := by decide +kernel
theorem dX0_orderShortOnes_93 : decode cX0_orderShortOnes 93 = .ok (.iinc 2 (-1), 3) := by decide +kernel
theorem dX0_orderShortOnes_96 : decode cX0_orderShortOnes 96 = .ok (.goto (-37), 3) := by decide +kernel
theorem dX0_orderShortOnes_99 : decode cX0_orderShortOnes 99 = .ok (.aload_n 0, 1) := by decide +kernel
theorem dX0_orderShortOnes_100 : decode cX0_orderShortOnes 100 = .ok (.getfield 37, 3) := by decide +kernel
theorem dX0_orderShortOnes_103 : decode cX0_orderShortOnes 103 = .ok (.iload_n 2, 1) := by decide +kernel
theorem dX0_orderShortOnes_104 : decode cX0_orderShortOnes 104 = .ok (.iload_n 1, 1) := by decide +kernel
theorem dX0_orderShortOnes_105 : decode cX0_orderShortOnes 105 = .ok (.iastore, 1) := by decide +kernel
theorem dX0_orderShortOnes_106 : decode cX0_orderShortOnes 106 = .ok (.aload_n 0, 1) := by decide +kernel
theorem dX0_orderShortOnes_107 : decode cX0_orderShortOnes 107 = .ok (.dup, 1) := by decide +kernel
theorem dX0_orderShortOnes_108 : decode cX0_orderShortOnes 108 = .ok (.getfield 40, 3) := by decide +kernel
theorem dX0_orderShortOnes_111 : decode cX0_orderShortOnes 111 = .ok (.iconst 1, 1) := by decide +kernel
theorem dX0_orderShortOnes_112 : decode cX0_orderShortOnes 112 = .ok (.iadd, 1) := by decide +kernel
theorem dX0_orderShortOnes_113 : decode cX0_orderShortOnes 113 = .ok (.putfield 40, 3) := by decide +kernel
theorem dX0_orderShortOnes_116 : decode cX0_orderShortOnes 116 = .ok (.iinc 1 1, 3) := by decide +kernel
theorem dX0_orderShortOnes_119 : decode cX0_orderShortOnes 119 = .ok (.goto (-112), 3) := by decide +kernel
theorem dX0_orderShortOnes_122 : decode cX0_orderShortOnes 122 = .ok (.return_, 1) := by decide +kernel
theorem dX0_isStackedBefore_0 : decode cX0_isStackedBefore 0 = .ok (.aload_n 0, 1) := by decide +kernel
theorem dX0_isStackedBefore_1 : decode cX0_isStackedBefore 1 = .ok (.getfield 12, 3) := by decide +kernel
theorem dX0_isStackedBefore_4 : decode cX0_isStackedBefore 4 = .ok (.getfield 99, 3) := by decide +kernel
theorem dX0_isStackedBefore_7 : decode cX0_isStackedBefore 7 = .ok (.iload_n 1, 1) := by decide +kernel
theorem dX0_isStackedBefore_8 : decode cX0_isStackedBefore 8 = .ok (.iaload, 1) := by decide +kernel
theorem dX0_isStackedBefore_9 : decode cX0_isStackedBefore 9 = .ok (.aload_n 0, 1) := by decide +kernel
theorem dX0_isStackedBefore_10 : decode cX0_isStackedBefore 10 = .ok (.getfield 12, 3) := by decide +kernel
theorem dX0_isStackedBefore_13 : decode cX0_isStackedBefore 13 = .ok (.getfield 99, 3) := by decide +kernel
theorem dX0_isStackedBefore_16 : decode cX0_isStackedBefore 16 = .ok (.iload_n 2, 1) := by decide +kernel
theorem dX0_isStackedBefore_17 : decode cX0_isStackedBefore 17 = .ok (.iaload, 1) := by decide +kernel
theorem dX0_isStackedBefore_18 : decode cX0_isStackedBefore 18 = .ok (.if_icmp .eq 30, 3) := by decide +kernel
theorem dX0_isStackedBefore_21 : decode cX0_isStackedBefore 21 = .ok (.aload_n 0, 1) := by decide +kernel
theorem dX0_isStackedBefore_22 : decode cX0_isStackedBefore 22 = .ok (.getfield 12, 3) := by decide +kernel
theorem dX0_isStackedBefore_25 : decode cX0_isStackedBefore 25 = .ok (.getfield 99, 3) := by decide +kernel
theorem dX0_isStackedBefore_28 : decode cX0_isStackedBefore 28 = .ok (.iload_n 1, 1) := by decide +kernel
theorem dX0_isStackedBefore_29 : decode cX0_isStackedBefore 29 = .ok (.iaload, 1) := by decide +kernel
theorem dX0_isStackedBefore_30 : decode cX0_isStackedBefore 30 = .ok (.aload_n 0, 1) := by decide +kernel
theorem dX0_isStackedBefore_31 : decode cX0_isStackedBefore 31 = .ok (.getfield 12, 3) := by decide +kernel
theorem dX0_isStackedBefore_34 : decode cX0_isStackedBefore 34 = .ok (.getfield 99, 3) := by decide +kernel
theorem dX0_isStackedBefore_37 : decode cX0_isStackedBefore 37 = .ok (.iload_n 2, 1) := by decide +kernel
theorem dX0_isStackedBefore_38 : decode cX0_isStackedBefore 38 = .ok (.iaload, 1) := by decide +kernel
theorem dX0_isStackedBefore_39 : decode cX0_isStackedBefore 39 = .ok (.if_icmp .le 7, 3) := by decide +kernel
theorem dX0_isStackedBefore_42 : decode cX0_isStackedBefore 42 = .ok (.iconst 1, 1) := by decide +kernel
theorem dX0_isStackedBefore_43 : decode cX0_isStackedBefore 43 = .ok (.goto 4, 3) := by decide +kernel
theorem dX0_isStackedBefore_46 : decode cX0_isStackedBefore 46 = .ok (.iconst 0, 1) := by decide +kernel
theorem dX0_isStackedBefore_47 : decode cX0_isStackedBefore 47 = .ok (.ireturn, 1) := by decide +kernel
theorem dX0_isStackedBefore_48 : decode cX0_isStackedBefore 48 = .ok (.aload_n 0, 1) := by decide +kernel
theorem dX0_isStackedBefore_49 : decode cX0_isStackedBefore 49 = .ok (.getfield 12, 3) := by decide +kernel
theorem dX0_isStackedBefore_52 : decode cX0_isStackedBefore 52 = .ok (.getfield 118, 3) := by decide +kernel
theorem dX0_isStackedBefore_55 : decode cX0_isStackedBefore 55 = .ok (.iload_n 1, 1) := by decide +kernel
theorem dX0_isStackedBefore_56 : decode cX0_isStackedBefore 56 = .ok (.iaload, 1) := by decide +kernel
theorem dX0_isStackedBefore_57 : decode cX0_isStackedBefore 57 = .ok (.aload_n 0, 1) := by decide +kernel
theorem dX0_isStackedBefore_58 : decode cX0_isStackedBefore 58 = .ok (.getfield 12, 3) := by decide +kernel
theorem dX0_isStackedBefore_61 : decode cX0_isStackedBefore 61 = .ok (.getfield 118, 3) := by decide +kernel
theorem dX0_isStackedBefore_64 : decode cX0_isStackedBefore 64 = .ok (.iload_n 2, 1) := by decide +kernel
theorem dX0_isStackedBefore_65 : decode cX0_isStackedBefore 65 = .ok (.iaload, 1) := by decide +kernel
theorem dX0_isStackedBefore_66 : decode cX0_isStackedBefore 66 = .ok (.if_icmp .ge 7, 3) := by decide +kernel
theorem dX0_isStackedBefore_69 : decode cX0_isStackedBefore 69 = .ok (.iconst 1, 1) := by decide +kernel
theorem dX0_isStackedBefore_70 : decode cX0_isStackedBefore 70 = .ok (.goto 4, 3) := by decide +kernel
theorem dX0_isStackedBefore_73 : decode cX0_isStackedBefore 73 = .ok (.iconst 0, 1) := by decide +kernel
theorem dX0_isStackedBefore_74 : decode cX0_isStackedBefore 74 = .ok (.ireturn, 1) := by decide +kernel
theorem dX0_stack_0 : decode cX0_stack 0 = .ok (.aload_n 0, 1) := by decide +kernel
theorem dX0_stack_1 : decode cX0_stack 1 = .ok (.getfield 12, 3) := by decide +kernel
theorem dX0_stack_4 : decode cX0_stack 4 = .ok (.getfield 93, 3) := by decide +kernel
theorem dX0_stack_7 : decode cX0_stack 7 = .ok (.iload_n 1, 1) := by decide +kernel
theorem dX0_stack_8 : decode cX0_stack 8 = .ok (.iaload, 1) := by decide +kernel
theorem dX0_stack_9 : decode cX0_stack 9 = .ok (.aload_n 0, 1) := by decide +kernel
theorem dX0_stack_10 : decode cX0_stack 10 = .ok (.getfield 12, 3) := by decide +kernel
theorem dX0_stack_13 : decode cX0_stack 13 = .ok (.getfield 63, 3) := by decide +kernel
theorem dX0_stack_16 : decode cX0_stack 16 = .ok (.isub, 1) := by decide +kernel
theorem dX0_stack_17 : decode cX0_stack 17 = .ok (.istore_n 2, 1) := by decide +kernel
theorem dX0_stack_18 : decode cX0_stack 18 = .ok (.aload_n 0, 1) := by decide +kernel
theorem dX0_stack_19 : decode cX0_stack 19 = .ok (.getfield 34, 3) := by decide +kernel
theorem dX0_stack_22 : decode cX0_stack 22 = .ok (.iload_n 2, 1) := by decide +kernel
theorem dX0_stack_23 : decode cX0_stack 23 = .ok (.iaload, 1) := by decide +kernel
theorem dX0_stack_24 : decode cX0_stack 24 = .ok (.invokestatic 111, 3) := by decide +kernel
theorem dX0_stack_27 : decode cX0_stack 27 = .ok (.istore_n 3, 1) := by decide +kernel
theorem dX0_stack_28 : decode cX0_stack 28 = .ok (.aload_n 0, 1) := by decide +kernel
theorem dX0_stack_29 : decode cX0_stack 29 = .ok (.getfield 31, 3) := by decide +kernel
theorem dX0_stack_32 : decode cX0_stack 32 = .ok (.iload_n 1, 1) := by decide +kernel
theorem dX0_stack_33 : decode cX0_stack 33 = .ok (.iload_n 3, 1) := by decide +kernel
theorem dX0_stack_34 : decode cX0_stack 34 = .ok (.iastore, 1) := by decide +kernel
theorem dX0_stack_35 : decode cX0_stack 35 = .ok (.aload_n 0, 1) := by decide +kernel
theorem dX0_stack_36 : decode cX0_stack 36 = .ok (.getfield 34, 3) := by decide +kernel
theorem dX0_stack_39 : decode cX0_stack 39 = .ok (.iload_n 2, 1) := by decide +kernel
theorem dX0_stack_40 : decode cX0_stack 40 = .ok (.dup2, 1) := by decide +kernel
theorem dX0_stack_41 : decode cX0_stack 41 = .ok (.iaload, 1) := by decide +kernel
theorem dX0_stack_42 : decode cX0_stack 42 = .ok (.iconst 1, 1) := by decide +kernel
theorem dX0_stack_43 : decode cX0_stack 43 = .ok (.iload_n 3, 1) := by decide +kernel
theorem dX0_stack_44 : decode cX0_stack 44 = .ok (.ishl, 1) := by decide +kernel
theorem dX0_stack_45 : decode cX0_stack 45 = .ok (.ior, 1) := by decide +kernel
theorem dX0_stack_46 : decode cX0_stack 46 = .ok (.iastore, 1) := by decide +kernel
theorem dX0_stack_47 : decode cX0_stack 47 = .ok (.return_, 1) := by decide +kernel
theorem dX0_smallestFree_0 : decode cX0_smallestFree 0 = .ok (.iconst 0, 1) := by decide +kernel
theorem dX0_smallestFree_1 : decode cX0_smallestFree 1 = .ok (.istore_n 1, 1) := by decide +kernel
theorem dX0_smallestFree_2 : decode cX0_smallestFree 2 = .ok (.iload_n 1, 1) := by decide +kernel
theorem dX0_smallestFree_3 : decode cX0_smallestFree 3 = .ok (.bipush 24, 2) := by decide +kernel
theorem dX0_smallestFree_5 : decode cX0_smallestFree 5 = .ok (.if_icmp .ge 17, 3) := by decide +kernel
theorem dX0_smallestFree_8 : decode cX0_smallestFree 8 = .ok (.iload_n 0, 1) := by decide +kernel
theorem dX0_smallestFree_9 : decode cX0_smallestFree 9 = .ok (.iload_n 1, 1) := by decide +kernel
theorem dX0_smallestFree_10 : decode cX0_smallestFree 10 = .ok (.ishr, 1) := by decide +kernel
theorem dX0_smallestFree_11 : decode cX0_smallestFree 11 = .ok (.iconst 1, 1) := by decide +kernel
theorem dX0_smallestFree_12 : decode cX0_smallestFree 12 = .ok (.iand, 1) := by decide +kernel
theorem dX0_smallestFree_13 : decode cX0_smallestFree 13 = .ok (.ifCond .eq 9, 3) := by decide +kernel
theorem dX0_smallestFree_16 : decode cX0_smallestFree 16 = .ok (.iinc 1 1, 3) := by decide +kernel
theorem dX0_smallestFree_19 : decode cX0_smallestFree 19 = .ok (.goto (-17), 3) := by decide +kernel
theorem dX0_smallestFree_22 : decode cX0_smallestFree 22 = .ok (.iload_n 1, 1) := by decide +kernel
theorem dX0_smallestFree_23 : decode cX0_smallestFree 23 = .ok (.ireturn, 1) := by decide +kernel
theorem dX0_firstOfWeek_0 : decode cX0_firstOfWeek 0 = .ok (.aload_n 0, 1) := by decide +kernel
theorem dX0_firstOfWeek_1 : decode cX0_firstOfWeek 1 = .ok (.getfield 22, 3) := by decide +kernel
theorem dX0_firstOfWeek_4 : decode cX0_firstOfWeek 4 = .ok (.iload_n 1, 1) := by decide +kernel
theorem dX0_firstOfWeek_5 : decode cX0_firstOfWeek 5 = .ok (.iaload, 1) := by decide +kernel
theorem dX0_firstOfWeek_6 : decode cX0_firstOfWeek 6 = .ok (.ireturn, 1) := by decide +kernel
theorem dX0_lastOfWeek_0 : decode cX0_lastOfWeek 0 = .ok (.aload_n 0, 1) := by decide +kernel
theorem dX0_lastOfWeek_1 : decode cX0_lastOfWeek 1 = .ok (.getfield 22, 3) := by decide +kernel
theorem dX0_lastOfWeek_4 : decode cX0_lastOfWeek 4 = .ok (.iload_n 1, 1) := by decide +kernel
theorem dX0_lastOfWeek_5 : decode cX0_lastOfWeek 5 = .ok (.iconst 1, 1) := by decide +kernel
theorem dX0_lastOfWeek_6 : decode cX0_lastOfWeek 6 = .ok (.iadd, 1) := by decide +kernel
theorem dX0_lastOfWeek_7 : decode cX0_lastOfWeek 7 = .ok (.iaload, 1) := by decide +kernel
theorem dX0_lastOfWeek_8 : decode cX0_lastOfWeek 8 = .ok (.iconst 1, 1) := by decide +kernel
theorem dX0_lastOfWeek_9 : decode cX0_lastOfWeek 9 = .ok (.isub, 1) := by decide +kernel
theorem dX0_lastOfWeek_10 : decode cX0_lastOfWeek 10 = .ok (.ireturn, 1) := by decide +kernel
theorem dX0_weekOfDay_0 : decode cX0_weekOfDay 0 = .ok (.iconst 0, 1) := by decide +kernel
theorem dX0_weekOfDay_1 : decode cX0_weekOfDay 1 = .ok (.istore_n 2, 1) := by decide +kernel
theorem dX0_weekOfDay_2 : decode cX0_weekOfDay 2 = .ok (.iload_n 2, 1) := by decide +kernel
theorem dX0_weekOfDay_3 : decode cX0_weekOfDay 3 = .ok (.iconst 1, 1) := by decide +kernel
theorem dX0_weekOfDay_4 : decode cX0_weekOfDay 4 = .ok (.iadd, 1) := by decide +kernel
theorem dX0_weekOfDay_5 : decode cX0_weekOfDay 5 = .ok (.aload_n 0, 1) := by decide +kernel
theorem dX0_weekOfDay_6 : decode cX0_weekOfDay 6 = .ok (.getfield 18, 3) := by decide +kernel
theorem dX0_weekOfDay_9 : decode cX0_weekOfDay 9 = .ok (.if_icmp .ge 21, 3) := by decide +kernel
theorem dX0_weekOfDay_12 : decode cX0_weekOfDay 12 = .ok (.aload_n 0, 1) := by decide +kernel
theorem dX0_weekOfDay_13 : decode cX0_weekOfDay 13 = .ok (.getfield 22, 3) := by decide +kernel
theorem dX0_weekOfDay_16 : decode cX0_weekOfDay 16 = .ok (.iload_n 2, 1) := by decide +kernel
theorem dX0_weekOfDay_17 : decode cX0_weekOfDay 17 = .ok (.iconst 1, 1) := by decide +kernel
theorem dX0_weekOfDay_18 : decode cX0_weekOfDay 18 = .ok (.iadd, 1) := by decide +kernel
theorem dX0_weekOfDay_19 : decode cX0_weekOfDay 19 = .ok (.iaload, 1) := by decide +kernel
theorem dX0_weekOfDay_20 : decode cX0_weekOfDay 20 = .ok (.iload_n 1, 1) := by decide +kernel
theorem dX0_weekOfDay_21 : decode cX0_weekOfDay 21 = .ok (.if_icmp .gt 9, 3) := by decide +kernel
theorem dX0_weekOfDay_24 : decode cX0_weekOfDay 24 = .ok (.iinc 2 1, 3) := by decide +kernel
theorem dX0_weekOfDay_27 : decode cX0_weekOfDay 27 = .ok (.goto (-25), 3) := by decide +kernel
theorem dX0_weekOfDay_30 : decode cX0_weekOfDay 30 = .ok (.iload_n 2, 1) := by decide +kernel
theorem dX0_weekOfDay_31 : decode cX0_weekOfDay 31 = .ok (.ireturn, 1) := by decide +kernel
theorem dX0_barsInWeek_0 : decode cX0_barsInWeek 0 = .ok (.iconst 0, 1) := by decide +kernel
theorem dX0_barsInWeek_1 : decode cX0_barsInWeek 1 = .ok (.istore_n 2, 1) := by decide +kernel
theorem dX0_barsInWeek_2 : decode cX0_barsInWeek 2 = .ok (.iconst 0, 1) := by decide +kernel
theorem dX0_barsInWeek_3 : decode cX0_barsInWeek 3 = .ok (.istore_n 3, 1) := by decide +kernel
theorem dX0_barsInWeek_4 : decode cX0_barsInWeek 4 = .ok (.iload_n 3, 1) := by decide +kernel
theorem dX0_barsInWeek_5 : decode cX0_barsInWeek 5 = .ok (.aload_n 0, 1) := by decide +kernel
theorem dX0_barsInWeek_6 : decode cX0_barsInWeek 6 = .ok (.getfield 12, 3) := by decide +kernel
theorem dX0_barsInWeek_9 : decode cX0_barsInWeek 9 = .ok (.getfield 72, 3) := by decide +kernel
theorem dX0_barsInWeek_12 : decode cX0_barsInWeek 12 = .ok (.if_icmp .ge 25, 3) := by decide +kernel
theorem dX0_barsInWeek_15 : decode cX0_barsInWeek 15 = .ok (.aload_n 0, 1) := by decide +kernel
theorem dX0_barsInWeek_16 : decode cX0_barsInWeek 16 = .ok (.getfield 28, 3) := by decide +kernel
theorem dX0_barsInWeek_19 : decode cX0_barsInWeek 19 = .ok (.iload_n 3, 1) := by decide +kernel
theorem dX0_barsInWeek_20 : decode cX0_barsInWeek 20 = .ok (.aaload, 1) := by decide +kernel
theorem dX0_barsInWeek_21 : decode cX0_barsInWeek 21 = .ok (.iload_n 1, 1) := by decide +kernel
theorem dX0_barsInWeek_22 : decode cX0_barsInWeek 22 = .ok (.iaload, 1) := by decide +kernel
theorem dX0_barsInWeek_23 : decode cX0_barsInWeek 23 = .ok (.bipush (-9), 2) := by decide +kernel
theorem dX0_barsInWeek_25 : decode cX0_barsInWeek 25 = .ok (.if_icmp .eq 6, 3) := by decide +kernel
theorem dX0_barsInWeek_28 : decode cX0_barsInWeek 28 = .ok (.iinc 2 1, 3) := by decide +kernel
theorem dX0_barsInWeek_31 : decode cX0_barsInWeek 31 = .ok (.iinc 3 1, 3) := by decide +kernel
theorem dX0_barsInWeek_34 : decode cX0_barsInWeek 34 = .ok (.goto (-30), 3) := by decide +kernel
theorem dX0_barsInWeek_37 : decode cX0_barsInWeek 37 = .ok (.iload_n 2, 1) := by decide +kernel
theorem dX0_barsInWeek_38 : decode cX0_barsInWeek 38 = .ok (.ireturn, 1) := by decide +kernel
theorem dX0_lanesInWeek_0 : decode cX0_lanesInWeek 0 = .ok (.iconst 0, 1) := by decide +kernel
theorem dX0_lanesInWeek_1 : decode cX0_lanesInWeek 1 = .ok (.istore_n 2, 1) := by decide +kernel
theorem dX0_lanesInWeek_2 : decode cX0_lanesInWeek 2 = .ok (.iconst 0, 1) := by decide +kernel
theorem dX0_lanesInWeek_3 : decode cX0_lanesInWeek 3 = .ok (.istore_n 3, 1) := by decide +kernel
theorem dX0_lanesInWeek_4 : decode cX0_lanesInWeek 4 = .ok (.iload_n 3, 1) := by decide +kernel
theorem dX0_lanesInWeek_5 : decode cX0_lanesInWeek 5 = .ok (.aload_n 0, 1) := by decide +kernel
theorem dX0_lanesInWeek_6 : decode cX0_lanesInWeek 6 = .ok (.getfield 12, 3) := by decide +kernel
theorem dX0_lanesInWeek_9 : decode cX0_lanesInWeek 9 = .ok (.getfield 72, 3) := by decide +kernel
theorem dX0_lanesInWeek_12 : decode cX0_lanesInWeek 12 = .ok (.if_icmp .ge 24, 3) := by decide +kernel
theorem dX0_lanesInWeek_15 : decode cX0_lanesInWeek 15 = .ok (.iload_n 2, 1) := by decide +kernel
theorem dX0_lanesInWeek_16 : decode cX0_lanesInWeek 16 = .ok (.aload_n 0, 1) := by decide +kernel
theorem dX0_lanesInWeek_17 : decode cX0_lanesInWeek 17 = .ok (.getfield 28, 3) := by decide +kernel
theorem dX0_lanesInWeek_20 : decode cX0_lanesInWeek 20 = .ok (.iload_n 3, 1) := by decide +kernel
theorem dX0_lanesInWeek_21 : decode cX0_lanesInWeek 21 = .ok (.aaload, 1) := by decide +kernel
theorem dX0_lanesInWeek_22 : decode cX0_lanesInWeek 22 = .ok (.iload_n 1, 1) := by decide +kernel
theorem dX0_lanesInWeek_23 : decode cX0_lanesInWeek 23 = .ok (.iaload, 1) := by decide +kernel
theorem dX0_lanesInWeek_24 : decode cX0_lanesInWeek 24 = .ok (.iconst 1, 1) := by decide +kernel
theorem dX0_lanesInWeek_25 : decode cX0_lanesInWeek 25 = .ok (.iadd, 1) := by decide +kernel
theorem dX0_lanesInWeek_26 : decode cX0_lanesInWeek 26 = .ok (.invokestatic 102, 3) := by decide +kernel
theorem dX0_lanesInWeek_29 : decode cX0_lanesInWeek 29 = .ok (.istore_n 2, 1) := by decide +kernel
theorem dX0_lanesInWeek_30 : decode cX0_lanesInWeek 30 = .ok (.iinc 3 1, 3) := by decide +kernel
theorem dX0_lanesInWeek_33 : decode cX0_lanesInWeek 33 = .ok (.goto (-29), 3) := by decide +kernel
theorem dX0_lanesInWeek_36 : decode cX0_lanesInWeek 36 = .ok (.iload_n 2, 1) := by decide +kernel
theorem dX0_lanesInWeek_37 : decode cX0_lanesInWeek 37 = .ok (.ireturn, 1) := by decide +kernel
theorem dX0_barsOfEntry_0 : decode cX0_barsOfEntry 0 = .ok (.iconst 0, 1) := by decide +kernel
theorem dX0_barsOfEntry_1 : decode cX0_barsOfEntry 1 = .ok (.istore_n 2, 1) := by decide +kernel
theorem dX0_barsOfEntry_2 : decode cX0_barsOfEntry 2 = .ok (.iconst 0, 1) := by decide +kernel
theorem dX0_barsOfEntry_3 : decode cX0_barsOfEntry 3 = .ok (.istore_n 3, 1) := by decide +kernel
theorem dX0_barsOfEntry_4 : decode cX0_barsOfEntry 4 = .ok (.iload_n 3, 1) := by decide +kernel
theorem dX0_barsOfEntry_5 : decode cX0_barsOfEntry 5 = .ok (.aload_n 0, 1) := by decide +kernel
theorem dX0_barsOfEntry_6 : decode cX0_barsOfEntry 6 = .ok (.getfield 18, 3) := by decide +kernel
theorem dX0_barsOfEntry_9 : decode cX0_barsOfEntry 9 = .ok (.if_icmp .ge 25, 3) := by decide +kernel
theorem dX0_barsOfEntry_12 : decode cX0_barsOfEntry 12 = .ok (.aload_n 0, 1) := by decide +kernel
theorem dX0_barsOfEntry_13 : decode cX0_barsOfEntry 13 = .ok (.getfield 28, 3) := by decide +kernel
theorem dX0_barsOfEntry_16 : decode cX0_barsOfEntry 16 = .ok (.iload_n 1, 1) := by decide +kernel
theorem dX0_barsOfEntry_17 : decode cX0_barsOfEntry 17 = .ok (.aaload, 1) := by decide +kernel
theorem dX0_barsOfEntry_18 : decode cX0_barsOfEntry 18 = .ok (.iload_n 3, 1) := by decide +kernel
theorem dX0_barsOfEntry_19 : decode cX0_barsOfEntry 19 = .ok (.iaload, 1) := by decide +kernel
theorem dX0_barsOfEntry_20 : decode cX0_barsOfEntry 20 = .ok (.bipush (-9), 2) := by decide +kernel
theorem dX0_barsOfEntry_22 : decode cX0_barsOfEntry 22 = .ok (.if_icmp .eq 6, 3) := by decide +kernel
theorem dX0_barsOfEntry_25 : decode cX0_barsOfEntry 25 = .ok (.iinc 2 1, 3) := by decide +kernel
theorem dX0_barsOfEntry_28 : decode cX0_barsOfEntry 28 = .ok (.iinc 3 1, 3) := by decide +kernel
theorem dX0_barsOfEntry_31 : decode cX0_barsOfEntry 31 = .ok (.goto (-27), 3) := by decide +kernel
theorem dX0_barsOfEntry_34 : decode cX0_barsOfEntry 34 = .ok (.iload_n 2, 1) := by decide +kernel
theorem dX0_barsOfEntry_35 : decode cX0_barsOfEntry 35 = .ok (.ireturn, 1) := by decide +kernel
theorem dX0_barsOnPage_0 : decode cX0_barsOnPage 0 = .ok (.iconst 0, 1) := by decide +kernel
theorem dX0_barsOnPage_1 : decode cX0_barsOnPage 1 = .ok (.istore_n 1, 1) := by decide +kernel
theorem dX0_barsOnPage_2 : decode cX0_barsOnPage 2 = .ok (.iconst 0, 1) := by decide +kernel
theorem dX0_barsOnPage_3 : decode cX0_barsOnPage 3 = .ok (.istore_n 2, 1) := by decide +kernel
theorem dX0_barsOnPage_4 : decode cX0_barsOnPage 4 = .ok (.iload_n 2, 1) := by decide +kernel
theorem dX0_barsOnPage_5 : decode cX0_barsOnPage 5 = .ok (.aload_n 0, 1) := by decide +kernel
theorem dX0_barsOnPage_6 : decode cX0_barsOnPage 6 = .ok (.getfield 18, 3) := by decide +kernel
theorem dX0_barsOnPage_9 : decode cX0_barsOnPage 9 = .ok (.if_icmp .ge 17, 3) := by decide +kernel
theorem dX0_barsOnPage_12 : decode cX0_barsOnPage 12 = .ok (.iload_n 1, 1) := by decide +kernel
theorem dX0_barsOnPage_13 : decode cX0_barsOnPage 13 = .ok (.aload_n 0, 1) := by decide +kernel
theorem dX0_barsOnPage_14 : decode cX0_barsOnPage 14 = .ok (.iload_n 2, 1) := by decide +kernel
theorem dX0_barsOnPage_15 : decode cX0_barsOnPage 15 = .ok (.invokevirtual 121, 3) := by decide +kernel
theorem dX0_barsOnPage_18 : decode cX0_barsOnPage 18 = .ok (.iadd, 1) := by decide +kernel
theorem dX0_barsOnPage_19 : decode cX0_barsOnPage 19 = .ok (.istore_n 1, 1) := by decide +kernel
theorem dX0_barsOnPage_20 : decode cX0_barsOnPage 20 = .ok (.iinc 2 1, 3) := by decide +kernel
theorem dX0_barsOnPage_23 : decode cX0_barsOnPage 23 = .ok (.goto (-19), 3) := by decide +kernel
theorem dX0_barsOnPage_26 : decode cX0_barsOnPage 26 = .ok (.iload_n 1, 1) := by decide +kernel
theorem dX0_barsOnPage_27 : decode cX0_barsOnPage 27 = .ok (.ireturn, 1) := by decide +kernel
theorem dX0_rowOnDay_0 : decode cX0_rowOnDay 0 = .ok (.aload_n 0, 1) := by decide +kernel
theorem dX0_rowOnDay_1 : decode cX0_rowOnDay 1 = .ok (.getfield 12, 3) := by decide +kernel
theorem dX0_rowOnDay_4 : decode cX0_rowOnDay 4 = .ok (.iload_n 1, 1) := by decide +kernel
theorem dX0_rowOnDay_5 : decode cX0_rowOnDay 5 = .ok (.iload_n 2, 1) := by decide +kernel
theorem dX0_rowOnDay_6 : decode cX0_rowOnDay 6 = .ok (.iload_n 2, 1) := by decide +kernel
theorem dX0_rowOnDay_7 : decode cX0_rowOnDay 7 = .ok (.invokevirtual 86, 3) := by decide +kernel
theorem dX0_rowOnDay_10 : decode cX0_rowOnDay 10 = .ok (.ifCond .ne 6, 3) := by decide +kernel
theorem dX0_rowOnDay_13 : decode cX0_rowOnDay 13 = .ok (.bipush (-9), 2) := by decide +kernel
theorem dX0_rowOnDay_15 : decode cX0_rowOnDay 15 = .ok (.ireturn, 1) := by decide +kernel
theorem dX0_rowOnDay_16 : decode cX0_rowOnDay 16 = .ok (.aload_n 0, 1) := by decide +kernel
theorem dX0_rowOnDay_17 : decode cX0_rowOnDay 17 = .ok (.getfield 12, 3) := by decide +kernel
theorem dX0_rowOnDay_20 : decode cX0_rowOnDay 20 = .ok (.iload_n 1, 1) := by decide +kernel
theorem dX0_rowOnDay_21 : decode cX0_rowOnDay 21 = .ok (.invokevirtual 75, 3) := by decide +kernel
theorem dX0_rowOnDay_24 : decode cX0_rowOnDay 24 = .ok (.ifCond .eq 18, 3) := by decide +kernel
theorem dX0_rowOnDay_27 : decode cX0_rowOnDay 27 = .ok (.aload_n 0, 1) := by decide +kernel
theorem dX0_rowOnDay_28 : decode cX0_rowOnDay 28 = .ok (.getfield 28, 3) := by decide +kernel
theorem dX0_rowOnDay_31 : decode cX0_rowOnDay 31 = .ok (.iload_n 1, 1) := by decide +kernel
theorem dX0_rowOnDay_32 : decode cX0_rowOnDay 32 = .ok (.aaload, 1) := by decide +kernel
theorem dX0_rowOnDay_33 : decode cX0_rowOnDay 33 = .ok (.aload_n 0, 1) := by decide +kernel
theorem dX0_rowOnDay_34 : decode cX0_rowOnDay 34 = .ok (.iload_n 2, 1) := by decide +kernel
theorem dX0_rowOnDay_35 : decode cX0_rowOnDay 35 = .ok (.invokevirtual 124, 3) := by decide +kernel
theorem dX0_rowOnDay_38 : decode cX0_rowOnDay 38 = .ok (.iaload, 1) := by decide +kernel
theorem dX0_rowOnDay_39 : decode cX0_rowOnDay 39 = .ok (.goto 9, 3) := by decide +kernel
theorem dX0_rowOnDay_42 : decode cX0_rowOnDay 42 = .ok (.aload_n 0, 1) := by decide +kernel
theorem dX0_rowOnDay_43 : decode cX0_rowOnDay 43 = .ok (.getfield 31, 3) := by decide +kernel
theorem dX0_rowOnDay_46 : decode cX0_rowOnDay 46 = .ok (.iload_n 1, 1) := by decide +kernel
theorem dX0_rowOnDay_47 : decode cX0_rowOnDay 47 = .ok (.iaload, 1) := by decide +kernel
theorem dX0_rowOnDay_48 : decode cX0_rowOnDay 48 = .ok (.ireturn, 1) := by decide +kernel
theorem dX0_entryInRow_0 : decode cX0_entryInRow 0 = .ok (.iconst 0, 1) := by decide +kernel
theorem dX0_entryInRow_1 : decode cX0_entryInRow 1 = .ok (.istore_n 3, 1) := by decide +kernel
theorem dX0_entryInRow_2 : decode cX0_entryInRow 2 = .ok (.iload_n 3, 1) := by decide +kernel
theorem dX0_entryInRow_3 : decode cX0_entryInRow 3 = .ok (.aload_n 0, 1) := by decide +kernel
theorem dX0_entryInRow_4 : decode cX0_entryInRow 4 = .ok (.getfield 12, 3) := by decide +kernel
theorem dX0_entryInRow_7 : decode cX0_entryInRow 7 = .ok (.getfield 72, 3) := by decide +kernel
theorem dX0_entryInRow_10 : decode cX0_entryInRow 10 = .ok (.if_icmp .ge 21, 3) := by decide +kernel
theorem dX0_entryInRow_13 : decode cX0_entryInRow 13 = .ok (.aload_n 0, 1) := by decide +kernel
theorem dX0_entryInRow_14 : decode cX0_entryInRow 14 = .ok (.iload_n 3, 1) := by decide +kernel
theorem dX0_entryInRow_15 : decode cX0_entryInRow 15 = .ok (.iload_n 1, 1) := by decide +kernel
theorem dX0_entryInRow_16 : decode cX0_entryInRow 16 = .ok (.invokevirtual 127, 3) := by decide +kernel
theorem dX0_entryInRow_19 : decode cX0_entryInRow 19 = .ok (.iload_n 2, 1) := by decide +kernel
theorem dX0_entryInRow_20 : decode cX0_entryInRow 20 = .ok (.if_icmp .ne 5, 3) := by decide +kernel
theorem dX0_entryInRow_23 : decode cX0_entryInRow 23 = .ok (.iload_n 3, 1) := by decide +kernel
theorem dX0_entryInRow_24 : decode cX0_entryInRow 24 = .ok (.ireturn, 1) := by decide +kernel
theorem dX0_entryInRow_25 : decode cX0_entryInRow 25 = .ok (.iinc 3 1, 3) := by decide +kernel
theorem dX0_entryInRow_28 : decode cX0_entryInRow 28 = .ok (.goto (-26), 3) := by decide +kernel
theorem dX0_entryInRow_31 : decode cX0_entryInRow 31 = .ok (.bipush (-9), 2) := by decide +kernel
theorem dX0_entryInRow_33 : decode cX0_entryInRow 33 = .ok (.ireturn, 1) := by decide +kernel
theorem dX0_rowsOnDay_0 : decode cX0_rowsOnDay 0 = .ok (.bipush 24, 2) := by decide +kernel
theorem dX0_rowsOnDay_2 : decode cX0_rowsOnDay 2 = .ok (.istore_n 2, 1) := by decide +kernel
theorem dX0_rowsOnDay_3 : decode cX0_rowsOnDay 3 = .ok (.iload_n 2, 1) := by decide +kernel
theorem dX0_rowsOnDay_4 : decode cX0_rowsOnDay 4 = .ok (.ifCond .le 32, 3) := by decide +kernel
theorem dX0_rowsOnDay_7 : decode cX0_rowsOnDay 7 = .ok (.aload_n 0, 1) := by decide +kernel
theorem dX0_rowsOnDay_8 : decode cX0_rowsOnDay 8 = .ok (.getfield 34, 3) := by decide +kernel
theorem dX0_rowsOnDay_11 : decode cX0_rowsOnDay 11 = .ok (.iload_n 1, 1) := by decide +kernel
theorem dX0_rowsOnDay_12 : decode cX0_rowsOnDay 12 = .ok (.aload_n 0, 1) := by decide +kernel
theorem dX0_rowsOnDay_13 : decode cX0_rowsOnDay 13 = .ok (.getfield 12, 3) := by decide +kernel
theorem dX0_rowsOnDay_16 : decode cX0_rowsOnDay 16 = .ok (.getfield 63, 3) := by decide +kernel
theorem dX0_rowsOnDay_19 : decode cX0_rowsOnDay 19 = .ok (.isub, 1) := by decide +kernel
theorem dX0_rowsOnDay_20 : decode cX0_rowsOnDay 20 = .ok (.iaload, 1) := by decide +kernel
theorem dX0_rowsOnDay_21 : decode cX0_rowsOnDay 21 = .ok (.iload_n 2, 1) := by decide +kernel
theorem dX0_rowsOnDay_22 : decode cX0_rowsOnDay 22 = .ok (.iconst 1, 1) := by decide +kernel
theorem dX0_rowsOnDay_23 : decode cX0_rowsOnDay 23 = .ok (.isub, 1) := by decide +kernel
theorem dX0_rowsOnDay_24 : decode cX0_rowsOnDay 24 = .ok (.ishr, 1) := by decide +kernel
theorem dX0_rowsOnDay_25 : decode cX0_rowsOnDay 25 = .ok (.iconst 1, 1) := by decide +kernel
theorem dX0_rowsOnDay_26 : decode cX0_rowsOnDay 26 = .ok (.iand, 1) := by decide +kernel
theorem dX0_rowsOnDay_27 : decode cX0_rowsOnDay 27 = .ok (.ifCond .ne 9, 3) := by decide +kernel
theorem dX0_rowsOnDay_30 : decode cX0_rowsOnDay 30 = .ok (.iinc 2 (-1), 3) := by decide +kernel
theorem dX0_rowsOnDay_33 : decode cX0_rowsOnDay 33 = .ok (.goto (-30), 3) := by decide +kernel
theorem dX0_rowsOnDay_36 : decode cX0_rowsOnDay 36 = .ok (.iload_n 2, 1) := by decide +kernel
theorem dX0_rowsOnDay_37 : decode cX0_rowsOnDay 37 = .ok (.ireturn, 1) := by decide +kernel
theorem dX0_hiddenOnDay_0 : decode cX0_hiddenOnDay 0 = .ok (.aload_n 0, 1) := by decide +kernel
theorem dX0_hiddenOnDay_1 : decode cX0_hiddenOnDay 1 = .ok (.getfield 34, 3) := by decide +kernel
theorem dX0_hiddenOnDay_4 : decode cX0_hiddenOnDay 4 = .ok (.iload_n 1, 1) := by decide +kernel
theorem dX0_hiddenOnDay_5 : decode cX0_hiddenOnDay 5 = .ok (.aload_n 0, 1) := by decide +kernel
theorem dX0_hiddenOnDay_6 : decode cX0_hiddenOnDay 6 = .ok (.getfield 12, 3) := by decide +kernel
theorem dX0_hiddenOnDay_9 : decode cX0_hiddenOnDay 9 = .ok (.getfield 63, 3) := by decide +kernel
theorem dX0_hiddenOnDay_12 : decode cX0_hiddenOnDay 12 = .ok (.isub, 1) := by decide +kernel
theorem dX0_hiddenOnDay_13 : decode cX0_hiddenOnDay 13 = .ok (.iaload, 1) := by decide +kernel
theorem dX0_hiddenOnDay_14 : decode cX0_hiddenOnDay 14 = .ok (.istore_n 3, 1) := by decide +kernel
theorem dX0_hiddenOnDay_15 : decode cX0_hiddenOnDay 15 = .ok (.iload_n 3, 1) := by decide +kernel
theorem dX0_hiddenOnDay_16 : decode cX0_hiddenOnDay 16 = .ok (.iload_n 2, 1) := by decide +kernel
theorem dX0_hiddenOnDay_17 : decode cX0_hiddenOnDay 17 = .ok (.ishr, 1) := by decide +kernel
theorem dX0_hiddenOnDay_18 : decode cX0_hiddenOnDay 18 = .ok (.ifCond .ne 7, 3) := by decide +kernel
theorem dX0_hiddenOnDay_21 : decode cX0_hiddenOnDay 21 = .ok (.iconst 0, 1) := by decide +kernel
theorem dX0_hiddenOnDay_22 : decode cX0_hiddenOnDay 22 = .ok (.goto 11, 3) := by decide +kernel
theorem dX0_hiddenOnDay_25 : decode cX0_hiddenOnDay 25 = .ok (.iload_n 3, 1) := by decide +kernel
theorem dX0_hiddenOnDay_26 : decode cX0_hiddenOnDay 26 = .ok (.iload_n 2, 1) := by decide +kernel
theorem dX0_hiddenOnDay_27 : decode cX0_hiddenOnDay 27 = .ok (.iconst 1, 1) := by decide +kernel
theorem dX0_hiddenOnDay_28 : decode cX0_hiddenOnDay 28 = .ok (.isub, 1) := by decide +kernel
theorem dX0_hiddenOnDay_29 : decode cX0_hiddenOnDay 29 = .ok (.ishr, 1) := by decide +kernel
theorem dX0_hiddenOnDay_30 : decode cX0_hiddenOnDay 30 = .ok (.invokestatic 130, 3) := by decide +kernel
theorem dX0_hiddenOnDay_33 : decode cX0_hiddenOnDay 33 = .ok (.ireturn, 1) := by decide +kernel
theorem dX0_hiddenOnDays_0 : decode cX0_hiddenOnDays 0 = .ok (.iconst 0, 1) := by decide +kernel
theorem dX0_hiddenOnDays_1 : decode cX0_hiddenOnDays 1 = .ok (.istore 4, 2) := by decide +kernel
theorem dX0_hiddenOnDays_3 : decode cX0_hiddenOnDays 3 = .ok (.iload_n 1, 1) := by decide +kernel
theorem dX0_hiddenOnDays_4 : decode cX0_hiddenOnDays 4 = .ok (.istore 5, 2) := by decide +kernel
theorem dX0_hiddenOnDays_6 : decode cX0_hiddenOnDays 6 = .ok (.iload 5, 2) := by decide +kernel
theorem dX0_hiddenOnDays_8 : decode cX0_hiddenOnDays 8 = .ok (.iload_n 2, 1) := by decide +kernel
theorem dX0_hiddenOnDays_9 : decode cX0_hiddenOnDays 9 = .ok (.if_icmp .gt 21, 3) := by decide +kernel
theorem dX0_hiddenOnDays_12 : decode cX0_hiddenOnDays 12 = .ok (.iload 4, 2) := by decide +kernel
theorem dX0_hiddenOnDays_14 : decode cX0_hiddenOnDays 14 = .ok (.aload_n 0, 1) := by decide +kernel
theorem dX0_hiddenOnDays_15 : decode cX0_hiddenOnDays 15 = .ok (.iload 5, 2) := by decide +kernel
theorem dX0_hiddenOnDays_17 : decode cX0_hiddenOnDays 17 = .ok (.iload_n 3, 1) := by decide +kernel
theorem dX0_hiddenOnDays_18 : decode cX0_hiddenOnDays 18 = .ok (.invokevirtual 135, 3) := by decide +kernel
theorem dX0_hiddenOnDays_21 : decode cX0_hiddenOnDays 21 = .ok (.iadd, 1) := by decide +kernel
theorem dX0_hiddenOnDays_22 : decode cX0_hiddenOnDays 22 = .ok (.istore 4, 2) := by decide +kernel
theorem dX0_hiddenOnDays_24 : decode cX0_hiddenOnDays 24 = .ok (.iinc 5 1, 3) := by decide +kernel
theorem dX0_hiddenOnDays_27 : decode cX0_hiddenOnDays 27 = .ok (.goto (-21), 3) := by decide +kernel
theorem dX0_hiddenOnDays_30 : decode cX0_hiddenOnDays 30 = .ok (.iload 4, 2) := by decide +kernel
theorem dX0_hiddenOnDays_32 : decode cX0_hiddenOnDays 32 = .ok (.ireturn, 1) := by decide +kernel
theorem dX0_hiddenOnPage_0 : decode cX0_hiddenOnPage 0 = .ok (.aload_n 0, 1) := by decide +kernel
theorem dX0_hiddenOnPage_1 : decode cX0_hiddenOnPage 1 = .ok (.aload_n 0, 1) := by decide +kernel
theorem dX0_hiddenOnPage_2 : decode cX0_hiddenOnPage 2 = .ok (.getfield 12, 3) := by decide +kernel
theorem dX0_hiddenOnPage_5 : decode cX0_hiddenOnPage 5 = .ok (.getfield 63, 3) := by decide +kernel
theorem dX0_hiddenOnPage_8 : decode cX0_hiddenOnPage 8 = .ok (.aload_n 0, 1) := by decide +kernel
theorem dX0_hiddenOnPage_9 : decode cX0_hiddenOnPage 9 = .ok (.getfield 12, 3) := by decide +kernel
theorem dX0_hiddenOnPage_12 : decode cX0_hiddenOnPage 12 = .ok (.getfield 66, 3) := by decide +kernel
theorem dX0_hiddenOnPage_15 : decode cX0_hiddenOnPage 15 = .ok (.iload_n 1, 1) := by decide +kernel
theorem dX0_hiddenOnPage_16 : decode cX0_hiddenOnPage 16 = .ok (.invokevirtual 138, 3) := by decide +kernel
theorem dX0_hiddenOnPage_19 : decode cX0_hiddenOnPage 19 = .ok (.ireturn, 1) := by decide +kernel
theorem dX0_daysHidden_0 : decode cX0_daysHidden 0 = .ok (.iconst 0, 1) := by decide +kernel
theorem dX0_daysHidden_1 : decode cX0_daysHidden 1 = .ok (.istore_n 2, 1) := by decide +kernel
theorem dX0_daysHidden_2 : decode cX0_daysHidden 2 = .ok (.aload_n 0, 1) := by decide +kernel
theorem dX0_daysHidden_3 : decode cX0_daysHidden 3 = .ok (.getfield 12, 3) := by decide +kernel
theorem dX0_daysHidden_6 : decode cX0_daysHidden 6 = .ok (.getfield 63, 3) := by decide +kernel
theorem dX0_daysHidden_9 : decode cX0_daysHidden 9 = .ok (.istore_n 3, 1) := by decide +kernel
theorem dX0_daysHidden_10 : decode cX0_daysHidden 10 = .ok (.iload_n 3, 1) := by decide +kernel
theorem dX0_daysHidden_11 : decode cX0_daysHidden 11 = .ok (.aload_n 0, 1) := by decide +kernel
theorem dX0_daysHidden_12 : decode cX0_daysHidden 12 = .ok (.getfield 12, 3) := by decide +kernel
theorem dX0_daysHidden_15 : decode cX0_daysHidden 15 = .ok (.getfield 66, 3) := by decide +kernel
theorem dX0_daysHidden_18 : decode cX0_daysHidden 18 = .ok (.if_icmp .gt 45, 3) := by decide +kernel
theorem dX0_daysHidden_21 : decode cX0_daysHidden 21 = .ok (.aload_n 0, 1) := by decide +kernel
theorem dX0_daysHidden_22 : decode cX0_daysHidden 22 = .ok (.iload_n 1, 1) := by decide +kernel
theorem dX0_daysHidden_23 : decode cX0_daysHidden 23 = .ok (.iload_n 3, 1) := by decide +kernel
theorem dX0_daysHidden_24 : decode cX0_daysHidden 24 = .ok (.invokevirtual 127, 3) := by decide +kernel
theorem dX0_daysHidden_27 : decode cX0_daysHidden 27 = .ok (.aload_n 0, 1) := by decide +kernel
theorem dX0_daysHidden_28 : decode cX0_daysHidden 28 = .ok (.getfield 12, 3) := by decide +kernel
theorem dX0_daysHidden_31 : decode cX0_daysHidden 31 = .ok (.getfield 142, 3) := by decide +kernel
theorem dX0_daysHidden_34 : decode cX0_daysHidden 34 = .ok (.iconst 1, 1) := by decide +kernel
theorem dX0_daysHidden_35 : decode cX0_daysHidden 35 = .ok (.isub, 1) := by decide +kernel
theorem dX0_daysHidden_36 : decode cX0_daysHidden 36 = .ok (.if_icmp .lt 21, 3) := by decide +kernel
theorem dX0_daysHidden_39 : decode cX0_daysHidden 39 = .ok (.aload_n 0, 1) := by decide +kernel
theorem dX0_daysHidden_40 : decode cX0_daysHidden 40 = .ok (.iload_n 3, 1) := by decide +kernel
theorem dX0_daysHidden_41 : decode cX0_daysHidden 41 = .ok (.aload_n 0, 1) := by decide +kernel
theorem dX0_daysHidden_42 : decode cX0_daysHidden 42 = .ok (.getfield 12, 3) := by decide +kernel
theorem dX0_daysHidden_45 : decode cX0_daysHidden 45 = .ok (.getfield 142, 3) := by decide +kernel
theorem dX0_daysHidden_48 : decode cX0_daysHidden 48 = .ok (.invokevirtual 135, 3) := by decide +kernel
theorem dX0_daysHidden_51 : decode cX0_daysHidden 51 = .ok (.ifCond .le 6, 3) := by decide +kernel
theorem dX0_daysHidden_54 : decode cX0_daysHidden 54 = .ok (.iinc 2 1, 3) := by decide +kernel
theorem dX0_daysHidden_57 : decode cX0_daysHidden 57 = .ok (.iinc 3 1, 3) := by decide +kernel
theorem dX0_daysHidden_60 : decode cX0_daysHidden 60 = .ok (.goto (-50), 3) := by decide +kernel
theorem dX0_daysHidden_63 : decode cX0_daysHidden 63 = .ok (.iload_n 2, 1) := by decide +kernel
theorem dX0_daysHidden_64 : decode cX0_daysHidden 64 = .ok (.ireturn, 1) := by decide +kernel
theorem dX0_isEmptyOnDays_0 : decode cX0_isEmptyOnDays 0 = .ok (.iload_n 1, 1) := by decide +kernel
theorem dX0_isEmptyOnDays_1 : decode cX0_isEmptyOnDays 1 = .ok (.istore_n 3, 1) := by decide +kernel
theorem dX0_isEmptyOnDays_2 : decode cX0_isEmptyOnDays 2 = .ok (.iload_n 3, 1) := by decide +kernel
theorem dX0_isEmptyOnDays_3 : decode cX0_isEmptyOnDays 3 = .ok (.iload_n 2, 1) := by decide +kernel
theorem dX0_isEmptyOnDays_4 : decode cX0_isEmptyOnDays 4 = .ok (.if_icmp .gt 28, 3) := by decide +kernel
theorem dX0_isEmptyOnDays_7 : decode cX0_isEmptyOnDays 7 = .ok (.aload_n 0, 1) := by decide +kernel
theorem dX0_isEmptyOnDays_8 : decode cX0_isEmptyOnDays 8 = .ok (.getfield 34, 3) := by decide +kernel
theorem dX0_isEmptyOnDays_11 : decode cX0_isEmptyOnDays 11 = .ok (.iload_n 3, 1) := by decide +kernel
theorem dX0_isEmptyOnDays_12 : decode cX0_isEmptyOnDays 12 = .ok (.aload_n 0, 1) := by decide +kernel
theorem dX0_isEmptyOnDays_13 : decode cX0_isEmptyOnDays 13 = .ok (.getfield 12, 3) := by decide +kernel
theorem dX0_isEmptyOnDays_16 : decode cX0_isEmptyOnDays 16 = .ok (.getfield 63, 3) := by decide +kernel
theorem dX0_isEmptyOnDays_19 : decode cX0_isEmptyOnDays 19 = .ok (.isub, 1) := by decide +kernel
theorem dX0_isEmptyOnDays_20 : decode cX0_isEmptyOnDays 20 = .ok (.iaload, 1) := by decide +kernel
theorem dX0_isEmptyOnDays_21 : decode cX0_isEmptyOnDays 21 = .ok (.ifCond .eq 5, 3) := by decide +kernel
theorem dX0_isEmptyOnDays_24 : decode cX0_isEmptyOnDays 24 = .ok (.iconst 0, 1) := by decide +kernel
theorem dX0_isEmptyOnDays_25 : decode cX0_isEmptyOnDays 25 = .ok (.ireturn, 1) := by decide +kernel
theorem dX0_isEmptyOnDays_26 : decode cX0_isEmptyOnDays 26 = .ok (.iinc 3 1, 3) := by decide +kernel
theorem dX0_isEmptyOnDays_29 : decode cX0_isEmptyOnDays 29 = .ok (.goto (-27), 3) := by decide +kernel
theorem dX0_isEmptyOnDays_32 : decode cX0_isEmptyOnDays 32 = .ok (.iconst 1, 1) := by decide +kernel
theorem dX0_isEmptyOnDays_33 : decode cX0_isEmptyOnDays 33 = .ok (.ireturn, 1) := by decide +kernel
theorem dX1_init_0 : decode cX1_init 0 = .ok (.aload_n 0, 1) := by decide +kernel
theorem dX1_init_1 : decode cX1_init 1 = .ok (.invokespecial 3, 3) := by decide +kernel
theorem dX1_init_4 : decode cX1_init 4 = .ok (.aload_n 0, 1) := by decide +kernel
theorem dX1_init_5 : decode cX1_init 5 = .ok (.bipush 8, 2) := by decide +kernel
theorem dX1_init_7 : decode cX1_init 7 = .ok (.anewarray 9, 3) := by decide +kernel
theorem dX1_init_10 : decode cX1_init 10 = .ok (.putfield 11, 3) := by decide +kernel
theorem dX1_init_13 : decode cX1_init 13 = .ok (.aload_n 0, 1) := by decide +kernel
theorem dX1_init_14 : decode cX1_init 14 = .ok (.iconst 0, 1) := by decide +kernel
theorem dX1_init_15 : decode cX1_init 15 = .ok (.putfield 17, 3) := by decide +kernel
theorem dX1_init_18 : decode cX1_init 18 = .ok (.aload_n 0, 1) := by decide +kernel
theorem dX1_init_19 : decode cX1_init 19 = .ok (.iconst 0, 1) := by decide +kernel
theorem dX1_init_20 : decode cX1_init 20 = .ok (.putfield 21, 3) := by decide +kernel
theorem dX1_init_23 : decode cX1_init 23 = .ok (.iconst 0, 1) := by decide +kernel
theorem dX1_init_24 : decode cX1_init 24 = .ok (.istore_n 1, 1) := by decide +kernel
theorem dX1_init_25 : decode cX1_init 25 = .ok (.iload_n 1, 1) := by decide +kernel
theorem dX1_init_26 : decode cX1_init 26 = .ok (.bipush 8, 2) := by decide +kernel
theorem dX1_init_28 : decode cX1_init 28 = .ok (.if_icmp .ge 22, 3) := by decide +kernel
theorem dX1_init_31 : decode cX1_init 31 = .ok (.aload_n 0, 1) := by decide +kernel
theorem dX1_init_32 : decode cX1_init 32 = .ok (.getfield 11, 3) := by decide +kernel
theorem dX1_init_35 : decode cX1_init 35 = .ok (.iload_n 1, 1) := by decide +kernel
theorem dX1_init_36 : decode cX1_init 36 = .ok (.new 9, 3) := by decide +kernel
theorem dX1_init_39 : decode cX1_init 39 = .ok (.dup, 1) := by decide +kernel
theorem dX1_init_40 : decode cX1_init 40 = .ok (.invokespecial 24, 3) := by decide +kernel
theorem dX1_init_43 : decode cX1_init 43 = .ok (.aastore, 1) := by decide +kernel
theorem dX1_init_44 : decode cX1_init 44 = .ok (.iinc 1 1, 3) := by decide +kernel
theorem dX1_init_47 : decode cX1_init 47 = .ok (.goto (-22), 3) := by decide +kernel
theorem dX1_init_50 : decode cX1_init 50 = .ok (.return_, 1) := by decide +kernel
theorem dX1_record_0 : decode cX1_record 0 = .ok (.aload_n 0, 1) := by decide +kernel
theorem dX1_record_1 : decode cX1_record 1 = .ok (.getfield 11, 3) := by decide +kernel
theorem dX1_record_4 : decode cX1_record 4 = .ok (.aload_n 0, 1) := by decide +kernel
theorem dX1_record_5 : decode cX1_record 5 = .ok (.getfield 17, 3) := by decide +kernel
theorem dX1_record_8 : decode cX1_record 8 = .ok (.aload_n 0, 1) := by decide +kernel
theorem dX1_record_9 : decode cX1_record 9 = .ok (.getfield 21, 3) := by decide +kernel
theorem dX1_record_12 : decode cX1_record 12 = .ok (.iadd, 1) := by decide +kernel
theorem dX1_record_13 : decode cX1_record 13 = .ok (.bipush 8, 2) := by decide +kernel
theorem dX1_record_15 : decode cX1_record 15 = .ok (.irem, 1) := by decide +kernel
theorem dX1_record_16 : decode cX1_record 16 = .ok (.aaload, 1) := by decide +kernel
theorem dX1_record_17 : decode cX1_record 17 = .ok (.aload_n 1, 1) := by decide +kernel
theorem dX1_record_18 : decode cX1_record 18 = .ok (.invokevirtual 25, 3) := by decide +kernel
theorem dX1_record_21 : decode cX1_record 21 = .ok (.aload_n 0, 1) := by decide +kernel
theorem dX1_record_22 : decode cX1_record 22 = .ok (.getfield 21, 3) := by decide +kernel
theorem dX1_record_25 : decode cX1_record 25 = .ok (.bipush 8, 2) := by decide +kernel
theorem dX1_record_27 : decode cX1_record 27 = .ok (.if_icmp .ge 16, 3) := by decide +kernel
theorem dX1_record_30 : decode cX1_record 30 = .ok (.aload_n 0, 1) := by decide +kernel
theorem dX1_record_31 : decode cX1_record 31 = .ok (.dup, 1) := by decide +kernel
theorem dX1_record_32 : decode cX1_record 32 = .ok (.getfield 21, 3) := by decide +kernel
theorem dX1_record_35 : decode cX1_record 35 = .ok (.iconst 1, 1) := by decide +kernel
theorem dX1_record_36 : decode cX1_record 36 = .ok (.iadd, 1) := by decide +kernel
theorem dX1_record_37 : decode cX1_record 37 = .ok (.putfield 21, 3) := by decide +kernel
theorem dX1_record_40 : decode cX1_record 40 = .ok (.goto 16, 3) := by decide +kernel
theorem dX1_record_43 : decode cX1_record 43 = .ok (.aload_n 0, 1) := by decide +kernel
theorem dX1_record_44 : decode cX1_record 44 = .ok (.aload_n 0, 1) := by decide +kernel
theorem dX1_record_45 : decode cX1_record 45 = .ok (.getfield 17, 3) := by decide +kernel
theorem dX1_record_48 : decode cX1_record 48 = .ok (.iconst 1, 1) := by decide +kernel
theorem dX1_record_49 : decode cX1_record 49 = .ok (.iadd, 1) := by decide +kernel
theorem dX1_record_50 : decode cX1_record 50 = .ok (.bipush 8, 2) := by decide +kernel
theorem dX1_record_52 : decode cX1_record 52 = .ok (.irem, 1) := by decide +kernel
theorem dX1_record_53 : decode cX1_record 53 = .ok (.putfield 17, 3) := by decide +kernel
theorem dX1_record_56 : decode cX1_record 56 = .ok (.return_, 1) := by decide +kernel
theorem dX1_restore_0 : decode cX1_restore 0 = .ok (.aload_n 0, 1) := by decide +kernel
theorem dX1_restore_1 : decode cX1_restore 1 = .ok (.getfield 21, 3) := by decide +kernel
theorem dX1_restore_4 : decode cX1_restore 4 = .ok (.ifCond .gt 4, 3) := by decide +kernel
theorem dX1_restore_7 : decode cX1_restore 7 = .ok (.return_, 1) := by decide +kernel
theorem dX1_restore_8 : decode cX1_restore 8 = .ok (.aload_n 0, 1) := by decide +kernel
theorem dX1_restore_9 : decode cX1_restore 9 = .ok (.dup, 1) := by decide +kernel
theorem dX1_restore_10 : decode cX1_restore 10 = .ok (.getfield 21, 3) := by decide +kernel
theorem dX1_restore_13 : decode cX1_restore 13 = .ok (.iconst 1, 1) := by decide +kernel
theorem dX1_restore_14 : decode cX1_restore 14 = .ok (.isub, 1) := by decide +kernel
theorem dX1_restore_15 : decode cX1_restore 15 = .ok (.putfield 21, 3) := by decide +kernel
theorem dX1_restore_18 : decode cX1_restore 18 = .ok (.aload_n 1, 1) := by decide +kernel
theorem dX1_restore_19 : decode cX1_restore 19 = .ok (.aload_n 0, 1) := by decide +kernel
theorem dX1_restore_20 : decode cX1_restore 20 = .ok (.getfield 11, 3) := by decide +kernel
theorem dX1_restore_23 : decode cX1_restore 23 = .ok (.aload_n 0, 1) := by decide +kernel
theorem dX1_restore_24 : decode cX1_restore 24 = .ok (.getfield 17, 3) := by decide +kernel
theorem dX1_restore_27 : decode cX1_restore 27 = .ok (.aload_n 0, 1) := by decide +kernel
theorem dX1_restore_28 : decode cX1_restore 28 = .ok (.getfield 21, 3) := by decide +kernel
theorem dX1_restore_31 : decode cX1_restore 31 = .ok (.iadd, 1) := by decide +kernel
theorem dX1_restore_32 : decode cX1_restore 32 = .ok (.bipush 8, 2) := by decide +kernel
theorem dX1_restore_34 : decode cX1_restore 34 = .ok (.irem, 1) := by decide +kernel
theorem dX1_restore_35 : decode cX1_restore 35 = .ok (.aaload, 1) := by decide +kernel
theorem dX1_restore_36 : decode cX1_restore 36 = .ok (.invokevirtual 25, 3) := by decide +kernel
theorem dX1_restore_39 : decode cX1_restore 39 = .ok (.return_, 1) := by decide +kernel
theorem dX2_init_0 : decode cX2_init 0 = .ok (.aload_n 0, 1) := by decide +kernel
theorem dX2_init_1 : decode cX2_init 1 = .ok (.invokespecial 3, 3) := by decide +kernel
theorem dX2_init_4 : decode cX2_init 4 = .ok (.aload_n 0, 1) := by decide +kernel
theorem dX2_init_5 : decode cX2_init 5 = .ok (.iconst 0, 1) := by decide +kernel
theorem dX2_init_6 : decode cX2_init 6 = .ok (.putfield 9, 3) := by decide +kernel
theorem dX2_init_9 : decode cX2_init 9 = .ok (.aload_n 0, 1) := by decide +kernel
theorem dX2_init_10 : decode cX2_init 10 = .ok (.bipush 30, 2) := by decide +kernel
theorem dX2_init_12 : decode cX2_init 12 = .ok (.putfield 15, 3) := by decide +kernel
theorem dX2_init_15 : decode cX2_init 15 = .ok (.aload_n 0, 1) := by decide +kernel
theorem dX2_init_16 : decode cX2_init 16 = .ok (.iconst 0, 1) := by decide +kernel
theorem dX2_init_17 : decode cX2_init 17 = .ok (.putfield 18, 3) := by decide +kernel
theorem dX2_init_20 : decode cX2_init 20 = .ok (.aload_n 0, 1) := by decide +kernel
theorem dX2_init_21 : decode cX2_init 21 = .ok (.iconst 4, 1) := by decide +kernel
theorem dX2_init_22 : decode cX2_init 22 = .ok (.putfield 21, 3) := by decide +kernel
theorem dX2_init_25 : decode cX2_init 25 = .ok (.aload_n 0, 1) := by decide +kernel
theorem dX2_init_26 : decode cX2_init 26 = .ok (.iconst 0, 1) := by decide +kernel
theorem dX2_init_27 : decode cX2_init 27 = .ok (.putfield 24, 3) := by decide +kernel
theorem dX2_init_30 : decode cX2_init 30 = .ok (.aload_n 0, 1) := by decide +kernel
theorem dX2_init_31 : decode cX2_init 31 = .ok (.bipush 24, 2) := by decide +kernel
theorem dX2_init_33 : decode cX2_init 33 = .ok (.newarray .int, 2) := by decide +kernel
theorem dX2_init_35 : decode cX2_init 35 = .ok (.putfield 27, 3) := by decide +kernel
theorem dX2_init_38 : decode cX2_init 38 = .ok (.aload_n 0, 1) := by decide +kernel
theorem dX2_init_39 : decode cX2_init 39 = .ok (.bipush 24, 2) := by decide +kernel
theorem dX2_init_41 : decode cX2_init 41 = .ok (.newarray .int, 2) := by decide +kernel
theorem dX2_init_43 : decode cX2_init 43 = .ok (.putfield 31, 3) := by decide +kernel
theorem dX2_init_46 : decode cX2_init 46 = .ok (.aload_n 0, 1) := by decide +kernel
theorem dX2_init_47 : decode cX2_init 47 = .ok (.bipush 24, 2) := by decide +kernel
theorem dX2_init_49 : decode cX2_init 49 = .ok (.newarray .int, 2) := by decide +kernel
theorem dX2_init_51 : decode cX2_init 51 = .ok (.putfield 34, 3) := by decide +kernel
theorem dX2_init_54 : decode cX2_init 54 = .ok (.aload_n 0, 1) := by decide +kernel
theorem dX2_init_55 : decode cX2_init 55 = .ok (.bipush 24, 2) := by decide +kernel
theorem dX2_init_57 : decode cX2_init 57 = .ok (.newarray .int, 2) := by decide +kernel
theorem dX2_init_59 : decode cX2_init 59 = .ok (.putfield 37, 3) := by decide +kernel
theorem dX2_init_62 : decode cX2_init 62 = .ok (.return_, 1) := by decide +kernel
theorem dX2_copy_0 : decode cX2_copy 0 = .ok (.aload_n 0, 1) := by decide +kernel
theorem dX2_copy_1 : decode cX2_copy 1 = .ok (.aload_n 1, 1) := by decide +kernel
theorem dX2_copy_2 : decode cX2_copy 2 = .ok (.getfield 9, 3) := by decide +kernel
theorem dX2_copy_5 : decode cX2_copy 5 = .ok (.putfield 9, 3) := by decide +kernel
theorem dX2_copy_8 : decode cX2_copy 8 = .ok (.aload_n 0, 1) := by decide +kernel
theorem dX2_copy_9 : decode cX2_copy 9 = .ok (.aload_n 1, 1) := by decide +kernel
theorem dX2_copy_10 : decode cX2_copy 10 = .ok (.getfield 15, 3) := by decide +kernel
theorem dX2_copy_13 : decode cX2_copy 13 = .ok (.putfield 15, 3) := by decide +kernel
theorem dX2_copy_16 : decode cX2_copy 16 = .ok (.aload_n 0, 1) := by decide +kernel
theorem dX2_copy_17 : decode cX2_copy 17 = .ok (.aload_n 1, 1) := by decide +kernel
theorem dX2_copy_18 : decode cX2_copy 18 = .ok (.getfield 18, 3) := by decide +kernel
theorem dX2_copy_21 : decode cX2_copy 21 = .ok (.putfield 18, 3) := by decide +kernel
theorem dX2_copy_24 : decode cX2_copy 24 = .ok (.aload_n 0, 1) := by decide +kernel
theorem dX2_copy_25 : decode cX2_copy 25 = .ok (.aload_n 1, 1) := by decide +kernel
theorem dX2_copy_26 : decode cX2_copy 26 = .ok (.getfield 21, 3) := by decide +kernel
theorem dX2_copy_29 : decode cX2_copy 29 = .ok (.putfield 21, 3) := by decide +kernel
theorem dX2_copy_32 : decode cX2_copy 32 = .ok (.aload_n 0, 1) := by decide +kernel
theorem dX2_copy_33 : decode cX2_copy 33 = .ok (.aload_n 1, 1) := by decide +kernel
theorem dX2_copy_34 : decode cX2_copy 34 = .ok (.getfield 24, 3) := by decide +kernel
theorem dX2_copy_37 : decode cX2_copy 37 = .ok (.putfield 24, 3) := by decide +kernel
theorem dX2_copy_40 : decode cX2_copy 40 = .ok (.iconst 0, 1) := by decide +kernel
theorem dX2_copy_41 : decode cX2_copy 41 = .ok (.istore_n 2, 1) := by decide +kernel
theorem dX2_copy_42 : decode cX2_copy 42 = .ok (.iload_n 2, 1) := by decide +kernel
theorem dX2_copy_43 : decode cX2_copy 43 = .ok (.bipush 24, 2) := by decide +kernel
theorem dX2_copy_45 : decode cX2_copy 45 = .ok (.if_icmp .ge 57, 3) := by decide +kernel
theorem dX2_copy_48 : decode cX2_copy 48 = .ok (.aload_n 0, 1) := by decide +kernel
theorem dX2_copy_49 : decode cX2_copy 49 = .ok (.getfield 27, 3) := by decide +kernel
theorem dX2_copy_52 : decode cX2_copy 52 = .ok (.iload_n 2, 1) := by decide +kernel
theorem dX2_copy_53 : decode cX2_copy 53 = .ok (.aload_n 1, 1) := by decide +kernel
theorem dX2_copy_54 : decode cX2_copy 54 = .ok (.getfield 27, 3) := by decide +kernel
theorem dX2_copy_57 : decode cX2_copy 57 = .ok (.iload_n 2, 1) := by decide +kernel
theorem dX2_copy_58 : decode cX2_copy 58 = .ok (.iaload, 1) := by decide +kernel
theorem dX2_copy_59 : decode cX2_copy 59 = .ok (.iastore, 1) := by decide +kernel
theorem dX2_copy_60 : decode cX2_copy 60 = .ok (.aload_n 0, 1) := by decide +kernel
theorem dX2_copy_61 : decode cX2_copy 61 = .ok (.getfield 31, 3) := by decide +kernel
theorem dX2_copy_64 : decode cX2_copy 64 = .ok (.iload_n 2, 1) := by decide +kernel
theorem dX2_copy_65 : decode cX2_copy 65 = .ok (.aload_n 1, 1) := by decide +kernel
theorem dX2_copy_66 : decode cX2_copy 66 = .ok (.getfield 31, 3) := by decide +kernel
theorem dX2_copy_69 : decode cX2_copy 69 = .ok (.iload_n 2, 1) := by decide +kernel
theorem dX2_copy_70 : decode cX2_copy 70 = .ok (.iaload, 1) := by decide +kernel
theorem dX2_copy_71 : decode cX2_copy 71 = .ok (.iastore, 1) := by decide +kernel
theorem dX2_copy_72 : decode cX2_copy 72 = .ok (.aload_n 0, 1) := by decide +kernel
theorem dX2_copy_73 : decode cX2_copy 73 = .ok (.getfield 34, 3) := by decide +kernel
theorem dX2_copy_76 : decode cX2_copy 76 = .ok (.iload_n 2, 1) := by decide +kernel
theorem dX2_copy_77 : decode cX2_copy 77 = .ok (.aload_n 1, 1) := by decide +kernel
theorem dX2_copy_78 : decode cX2_copy 78 = .ok (.getfield 34, 3) := by decide +kernel
theorem dX2_copy_81 : decode cX2_copy 81 = .ok (.iload_n 2, 1) := by decide +kernel
theorem dX2_copy_82 : decode cX2_copy 82 = .ok (.iaload, 1) := by decide +kernel
theorem dX2_copy_83 : decode cX2_copy 83 = .ok (.iastore, 1) := by decide +kernel
theorem dX2_copy_84 : decode cX2_copy 84 = .ok (.aload_n 0, 1) := by decide +kernel
theorem dX2_copy_85 : decode cX2_copy 85 = .ok (.getfield 37, 3) := by decide +kernel
theorem dX2_copy_88 : decode cX2_copy 88 = .ok (.iload_n 2, 1) := by decide +kernel
theorem dX2_copy_89 : decode cX2_copy 89 = .ok (.aload_n 1, 1) := by decide +kernel
theorem dX2_copy_90 : decode cX2_copy 90 = .ok (.getfield 37, 3) := by decide +kernel
theorem dX2_copy_93 : decode cX2_copy 93 = .ok (.iload_n 2, 1) := by decide +kernel
theorem dX2_copy_94 : decode cX2_copy 94 = .ok (.iaload, 1) := by decide +kernel
theorem dX2_copy_95 : decode cX2_copy 95 = .ok (.iastore, 1) := by decide +kernel
theorem dX2_copy_96 : decode cX2_copy 96 = .ok (.iinc 2 1, 3) := by decide +kernel
theorem dX2_copy_99 : decode cX2_copy 99 = .ok (.goto (-57), 3) := by decide +kernel
theorem dX2_copy_102 : decode cX2_copy 102 = .ok (.return_, 1) := by decide +kernel
theorem dX2_append_0 : decode cX2_append 0 = .ok (.aload_n 0, 1) := by decide +kernel
theorem dX2_append_1 : decode cX2_append 1 = .ok (.getfield 24, 3) := by decide +kernel
theorem dX2_append_4 : decode cX2_append 4 = .ok (.bipush 24, 2) := by decide +kernel
theorem dX2_append_6 : decode cX2_append 6 = .ok (.if_icmp .lt 4, 3) := by decide +kernel
theorem dX2_append_9 : decode cX2_append 9 = .ok (.return_, 1) := by decide +kernel
theorem dX2_append_10 : decode cX2_append 10 = .ok (.aload_n 0, 1) := by decide +kernel
theorem dX2_append_11 : decode cX2_append 11 = .ok (.getfield 27, 3) := by decide +kernel
theorem dX2_append_14 : decode cX2_append 14 = .ok (.aload_n 0, 1) := by decide +kernel
theorem dX2_append_15 : decode cX2_append 15 = .ok (.getfield 24, 3) := by decide +kernel
theorem dX2_append_18 : decode cX2_append 18 = .ok (.iload_n 1, 1) := by decide +kernel
theorem dX2_append_19 : decode cX2_append 19 = .ok (.iastore, 1) := by decide +kernel
theorem dX2_append_20 : decode cX2_append 20 = .ok (.aload_n 0, 1) := by decide +kernel
theorem dX2_append_21 : decode cX2_append 21 = .ok (.getfield 31, 3) := by decide +kernel
theorem dX2_append_24 : decode cX2_append 24 = .ok (.aload_n 0, 1) := by decide +kernel
theorem dX2_append_25 : decode cX2_append 25 = .ok (.getfield 24, 3) := by decide +kernel
theorem dX2_append_28 : decode cX2_append 28 = .ok (.iload_n 2, 1) := by decide +kernel
theorem dX2_append_29 : decode cX2_append 29 = .ok (.iastore, 1) := by decide +kernel
theorem dX2_append_30 : decode cX2_append 30 = .ok (.aload_n 0, 1) := by decide +kernel
theorem dX2_append_31 : decode cX2_append 31 = .ok (.getfield 34, 3) := by decide +kernel
theorem dX2_append_34 : decode cX2_append 34 = .ok (.aload_n 0, 1) := by decide +kernel
theorem dX2_append_35 : decode cX2_append 35 = .ok (.getfield 24, 3) := by decide +kernel
theorem dX2_append_38 : decode cX2_append 38 = .ok (.iload_n 3, 1) := by decide +kernel
theorem dX2_append_39 : decode cX2_append 39 = .ok (.iastore, 1) := by decide +kernel
theorem dX2_append_40 : decode cX2_append 40 = .ok (.aload_n 0, 1) := by decide +kernel
theorem dX2_append_41 : decode cX2_append 41 = .ok (.getfield 37, 3) := by decide +kernel
theorem dX2_append_44 : decode cX2_append 44 = .ok (.aload_n 0, 1) := by decide +kernel
theorem dX2_append_45 : decode cX2_append 45 = .ok (.getfield 24, 3) := by decide +kernel
theorem dX2_append_48 : decode cX2_append 48 = .ok (.iload 4, 2) := by decide +kernel
theorem dX2_append_50 : decode cX2_append 50 = .ok (.iastore, 1) := by decide +kernel
theorem dX2_append_51 : decode cX2_append 51 = .ok (.aload_n 0, 1) := by decide +kernel
theorem dX2_append_52 : decode cX2_append 52 = .ok (.dup, 1) := by decide +kernel
theorem dX2_append_53 : decode cX2_append 53 = .ok (.getfield 24, 3) := by decide +kernel
theorem dX2_append_56 : decode cX2_append 56 = .ok (.iconst 1, 1) := by decide +kernel
theorem dX2_append_57 : decode cX2_append 57 = .ok (.iadd, 1) := by decide +kernel
theorem dX2_append_58 : decode cX2_append 58 = .ok (.putfield 24, 3) := by decide +kernel
theorem dX2_append_61 : decode cX2_append 61 = .ok (.return_, 1) := by decide +kernel
theorem dX2_isLong_0 : decode cX2_isLong 0 = .ok (.aload_n 0, 1) := by decide +kernel
theorem dX2_isLong_1 : decode cX2_isLong 1 = .ok (.getfield 31, 3) := by decide +kernel
theorem dX2_isLong_4 : decode cX2_isLong 4 = .ok (.iload_n 1, 1) := by decide +kernel
theorem dX2_isLong_5 : decode cX2_isLong 5 = .ok (.iaload, 1) := by decide +kernel
theorem dX2_isLong_6 : decode cX2_isLong 6 = .ok (.aload_n 0, 1) := by decide +kernel
theorem dX2_isLong_7 : decode cX2_isLong 7 = .ok (.getfield 27, 3) := by decide +kernel
theorem dX2_isLong_10 : decode cX2_isLong 10 = .ok (.iload_n 1, 1) := by decide +kernel
theorem dX2_isLong_11 : decode cX2_isLong 11 = .ok (.iaload, 1) := by decide +kernel
theorem dX2_isLong_12 : decode cX2_isLong 12 = .ok (.if_icmp .gt 14, 3) := by decide +kernel
theorem dX2_isLong_15 : decode cX2_isLong 15 = .ok (.aload_n 0, 1) := by decide +kernel
theorem dX2_isLong_16 : decode cX2_isLong 16 = .ok (.getfield 34, 3) := by decide +kernel
theorem dX2_isLong_19 : decode cX2_isLong 19 = .ok (.iload_n 1, 1) := by decide +kernel
theorem dX2_isLong_20 : decode cX2_isLong 20 = .ok (.iaload, 1) := by decide +kernel
theorem dX2_isLong_21 : decode cX2_isLong 21 = .ok (.bipush (-9), 2) := by decide +kernel
theorem dX2_isLong_23 : decode cX2_isLong 23 = .ok (.if_icmp .ne 7, 3) := by decide +kernel
theorem dX2_isLong_26 : decode cX2_isLong 26 = .ok (.iconst 1, 1) := by decide +kernel
theorem dX2_isLong_27 : decode cX2_isLong 27 = .ok (.goto 4, 3) := by decide +kernel
theorem dX2_isLong_30 : decode cX2_isLong 30 = .ok (.iconst 0, 1) := by decide +kernel
theorem dX2_isLong_31 : decode cX2_isLong 31 = .ok (.ireturn, 1) := by decide +kernel
theorem dX2_meets_0 : decode cX2_meets 0 = .ok (.aload_n 0, 1) := by decide +kernel
theorem dX2_meets_1 : decode cX2_meets 1 = .ok (.getfield 27, 3) := by decide +kernel
theorem dX2_meets_4 : decode cX2_meets 4 = .ok (.iload_n 1, 1) := by decide +kernel
theorem dX2_meets_5 : decode cX2_meets 5 = .ok (.iaload, 1) := by decide +kernel
theorem dX2_meets_6 : decode cX2_meets 6 = .ok (.iload_n 3, 1) := by decide +kernel
theorem dX2_meets_7 : decode cX2_meets 7 = .ok (.if_icmp .gt 17, 3) := by decide +kernel
theorem dX2_meets_10 : decode cX2_meets 10 = .ok (.aload_n 0, 1) := by decide +kernel
theorem dX2_meets_11 : decode cX2_meets 11 = .ok (.getfield 31, 3) := by decide +kernel
theorem dX2_meets_14 : decode cX2_meets 14 = .ok (.iload_n 1, 1) := by decide +kernel
theorem dX2_meets_15 : decode cX2_meets 15 = .ok (.iaload, 1) := by decide +kernel
theorem dX2_meets_16 : decode cX2_meets 16 = .ok (.iload_n 2, 1) := by decide +kernel
theorem dX2_meets_17 : decode cX2_meets 17 = .ok (.if_icmp .lt 7, 3) := by decide +kernel
theorem dX2_meets_20 : decode cX2_meets 20 = .ok (.iconst 1, 1) := by decide +kernel
theorem dX2_meets_21 : decode cX2_meets 21 = .ok (.goto 4, 3) := by decide +kernel
theorem dX2_meets_24 : decode cX2_meets 24 = .ok (.iconst 0, 1) := by decide +kernel
theorem dX2_meets_25 : decode cX2_meets 25 = .ok (.ireturn, 1) := by decide +kernel
theorem dX2_daysOnPage_0 : decode cX2_daysOnPage 0 = .ok (.iconst 0, 1) := by decide +kernel
theorem dX2_daysOnPage_1 : decode cX2_daysOnPage 1 = .ok (.aload_n 0, 1) := by decide +kernel
theorem dX2_daysOnPage_2 : decode cX2_daysOnPage 2 = .ok (.getfield 31, 3) := by decide +kernel
theorem dX2_daysOnPage_5 : decode cX2_daysOnPage 5 = .ok (.iload_n 1, 1) := by decide +kernel
theorem dX2_daysOnPage_6 : decode cX2_daysOnPage 6 = .ok (.iaload, 1) := by decide +kernel
theorem dX2_daysOnPage_7 : decode cX2_daysOnPage 7 = .ok (.aload_n 0, 1) := by decide +kernel
theorem dX2_daysOnPage_8 : decode cX2_daysOnPage 8 = .ok (.getfield 15, 3) := by decide +kernel
theorem dX2_daysOnPage_11 : decode cX2_daysOnPage 11 = .ok (.invokestatic 40, 3) := by decide +kernel
theorem dX2_daysOnPage_14 : decode cX2_daysOnPage 14 = .ok (.aload_n 0, 1) := by decide +kernel
theorem dX2_daysOnPage_15 : decode cX2_daysOnPage 15 = .ok (.getfield 27, 3) := by decide +kernel
theorem dX2_daysOnPage_18 : decode cX2_daysOnPage 18 = .ok (.iload_n 1, 1) := by decide +kernel
theorem dX2_daysOnPage_19 : decode cX2_daysOnPage 19 = .ok (.iaload, 1) := by decide +kernel
theorem dX2_daysOnPage_20 : decode cX2_daysOnPage 20 = .ok (.aload_n 0, 1) := by decide +kernel
theorem dX2_daysOnPage_21 : decode cX2_daysOnPage 21 = .ok (.getfield 9, 3) := by decide +kernel
theorem dX2_daysOnPage_24 : decode cX2_daysOnPage 24 = .ok (.invokestatic 46, 3) := by decide +kernel
theorem dX2_daysOnPage_27 : decode cX2_daysOnPage 27 = .ok (.isub, 1) := by decide +kernel
theorem dX2_daysOnPage_28 : decode cX2_daysOnPage 28 = .ok (.iconst 1, 1) := by decide +kernel
theorem dX2_daysOnPage_29 : decode cX2_daysOnPage 29 = .ok (.iadd, 1) := by decide +kernel
theorem dX2_daysOnPage_30 : decode cX2_daysOnPage 30 = .ok (.invokestatic 46, 3) := by decide +kernel
theorem dX2_daysOnPage_33 : decode cX2_daysOnPage 33 = .ok (.ireturn, 1) := by decide +kernel
theorem dX2_shortOnes_0 : decode cX2_shortOnes 0 = .ok (.iconst 0, 1) := by decide +kernel
theorem dX2_shortOnes_1 : decode cX2_shortOnes 1 = .ok (.istore_n 3, 1) := by decide +kernel
theorem dX2_shortOnes_2 : decode cX2_shortOnes 2 = .ok (.iconst 0, 1) := by decide +kernel
theorem dX2_shortOnes_3 : decode cX2_shortOnes 3 = .ok (.istore 4, 2) := by decide +kernel
theorem dX2_shortOnes_5 : decode cX2_shortOnes 5 = .ok (.iload 4, 2) := by decide +kernel
theorem dX2_shortOnes_7 : decode cX2_shortOnes 7 = .ok (.aload_n 0, 1) := by decide +kernel
theorem dX2_shortOnes_8 : decode cX2_shortOnes 8 = .ok (.getfield 24, 3) := by decide +kernel
theorem dX2_shortOnes_11 : decode cX2_shortOnes 11 = .ok (.if_icmp .ge 32, 3) := by decide +kernel
theorem dX2_shortOnes_14 : decode cX2_shortOnes 14 = .ok (.aload_n 0, 1) := by decide +kernel
theorem dX2_shortOnes_15 : decode cX2_shortOnes 15 = .ok (.iload 4, 2) := by decide +kernel
theorem dX2_shortOnes_17 : decode cX2_shortOnes 17 = .ok (.invokevirtual 49, 3) := by decide +kernel
theorem dX2_shortOnes_20 : decode cX2_shortOnes 20 = .ok (.ifCond .ne 17, 3) := by decide +kernel
theorem dX2_shortOnes_23 : decode cX2_shortOnes 23 = .ok (.aload_n 0, 1) := by decide +kernel
theorem dX2_shortOnes_24 : decode cX2_shortOnes 24 = .ok (.iload 4, 2) := by decide +kernel
theorem dX2_shortOnes_26 : decode cX2_shortOnes 26 = .ok (.iload_n 1, 1) := by decide +kernel
theorem dX2_shortOnes_27 : decode cX2_shortOnes 27 = .ok (.iload_n 2, 1) := by decide +kernel
theorem dX2_shortOnes_28 : decode cX2_shortOnes 28 = .ok (.invokevirtual 53, 3) := by decide +kernel
theorem dX2_shortOnes_31 : decode cX2_shortOnes 31 = .ok (.ifCond .eq 6, 3) := by decide +kernel
theorem dX2_shortOnes_34 : decode cX2_shortOnes 34 = .ok (.iinc 3 1, 3) := by decide +kernel
theorem dX2_shortOnes_37 : decode cX2_shortOnes 37 = .ok (.iinc 4 1, 3) := by decide +kernel
theorem dX2_shortOnes_40 : decode cX2_shortOnes 40 = .ok (.goto (-35), 3) := by decide +kernel
theorem dX2_shortOnes_43 : decode cX2_shortOnes 43 = .ok (.iload_n 3, 1) := by decide +kernel
theorem dX2_shortOnes_44 : decode cX2_shortOnes 44 = .ok (.ireturn, 1) := by decide +kernel
theorem dX2_longOnes_0 : decode cX2_longOnes 0 = .ok (.iconst 0, 1) := by decide +kernel
theorem dX2_longOnes_1 : decode cX2_longOnes 1 = .ok (.istore_n 2, 1) := by decide +kernel
theorem dX2_longOnes_2 : decode cX2_longOnes 2 = .ok (.iconst 0, 1) := by decide +kernel
theorem dX2_longOnes_3 : decode cX2_longOnes 3 = .ok (.istore_n 3, 1) := by decide +kernel
theorem dX2_longOnes_4 : decode cX2_longOnes 4 = .ok (.iload_n 3, 1) := by decide +kernel
theorem dX2_longOnes_5 : decode cX2_longOnes 5 = .ok (.aload_n 0, 1) := by decide +kernel
theorem dX2_longOnes_6 : decode cX2_longOnes 6 = .ok (.getfield 24, 3) := by decide +kernel
theorem dX2_longOnes_9 : decode cX2_longOnes 9 = .ok (.if_icmp .ge 30, 3) := by decide +kernel
theorem dX2_longOnes_12 : decode cX2_longOnes 12 = .ok (.aload_n 0, 1) := by decide +kernel
theorem dX2_longOnes_13 : decode cX2_longOnes 13 = .ok (.iload_n 3, 1) := by decide +kernel
theorem dX2_longOnes_14 : decode cX2_longOnes 14 = .ok (.invokevirtual 49, 3) := by decide +kernel
theorem dX2_longOnes_17 : decode cX2_longOnes 17 = .ok (.ifCond .eq 16, 3) := by decide +kernel
theorem dX2_longOnes_20 : decode cX2_longOnes 20 = .ok (.aload_n 0, 1) := by decide +kernel
theorem dX2_longOnes_21 : decode cX2_longOnes 21 = .ok (.iload_n 3, 1) := by decide +kernel
theorem dX2_longOnes_22 : decode cX2_longOnes 22 = .ok (.iload_n 1, 1) := by decide +kernel
theorem dX2_longOnes_23 : decode cX2_longOnes 23 = .ok (.iload_n 1, 1) := by decide +kernel
theorem dX2_longOnes_24 : decode cX2_longOnes 24 = .ok (.invokevirtual 53, 3) := by decide +kernel
theorem dX2_longOnes_27 : decode cX2_longOnes 27 = .ok (.ifCond .eq 6, 3) := by decide +kernel
theorem dX2_longOnes_30 : decode cX2_longOnes 30 = .ok (.iinc 2 1, 3) := by decide +kernel
theorem dX2_longOnes_33 : decode cX2_longOnes 33 = .ok (.iinc 3 1, 3) := by decide +kernel
theorem dX2_longOnes_36 : decode cX2_longOnes 36 = .ok (.goto (-32), 3) := by decide +kernel
theorem dX2_longOnes_39 : decode cX2_longOnes 39 = .ok (.iload_n 2, 1) := by decide +kernel
theorem dX2_longOnes_40 : decode cX2_longOnes 40 = .ok (.ireturn, 1) := by decide +kernel
theorem dX2_allLongOnes_0 : decode cX2_allLongOnes 0 = .ok (.iconst 0, 1) := by decide +kernel
theorem dX2_allLongOnes_1 : decode cX2_allLongOnes 1 = .ok (.istore_n 1, 1) := by decide +kernel
theorem dX2_allLongOnes_2 : decode cX2_allLongOnes 2 = .ok (.iconst 0, 1) := by decide +kernel
theorem dX2_allLongOnes_3 : decode cX2_allLongOnes 3 = .ok (.istore_n 2, 1) := by decide +kernel
theorem dX2_allLongOnes_4 : decode cX2_allLongOnes 4 = .ok (.iload_n 2, 1) := by decide +kernel
theorem dX2_allLongOnes_5 : decode cX2_allLongOnes 5 = .ok (.aload_n 0, 1) := by decide +kernel
theorem dX2_allLongOnes_6 : decode cX2_allLongOnes 6 = .ok (.getfield 24, 3) := by decide +kernel
theorem dX2_allLongOnes_9 : decode cX2_allLongOnes 9 = .ok (.if_icmp .ge 20, 3) := by decide +kernel
theorem dX2_allLongOnes_12 : decode cX2_allLongOnes 12 = .ok (.aload_n 0, 1) := by decide +kernel
theorem dX2_allLongOnes_13 : decode cX2_allLongOnes 13 = .ok (.iload_n 2, 1) := by decide +kernel
theorem dX2_allLongOnes_14 : decode cX2_allLongOnes 14 = .ok (.invokevirtual 49, 3) := by decide +kernel
theorem dX2_allLongOnes_17 : decode cX2_allLongOnes 17 = .ok (.ifCond .eq 6, 3) := by decide +kernel
theorem dX2_allLongOnes_20 : decode cX2_allLongOnes 20 = .ok (.iinc 1 1, 3) := by decide +kernel
theorem dX2_allLongOnes_23 : decode cX2_allLongOnes 23 = .ok (.iinc 2 1, 3) := by decide +kernel
theorem dX2_allLongOnes_26 : decode cX2_allLongOnes 26 = .ok (.goto (-22), 3) := by decide +kernel
theorem dX2_allLongOnes_29 : decode cX2_allLongOnes 29 = .ok (.iload_n 1, 1) := by decide +kernel
theorem dX2_allLongOnes_30 : decode cX2_allLongOnes 30 = .ok (.ireturn, 1) := by decide +kernel
theorem dX2_allOnPage_0 : decode cX2_allOnPage 0 = .ok (.iconst 0, 1) := by decide +kernel
theorem dX2_allOnPage_1 : decode cX2_allOnPage 1 = .ok (.istore_n 1, 1) := by decide +kernel
theorem dX2_allOnPage_2 : decode cX2_allOnPage 2 = .ok (.iconst 0, 1) := by decide +kernel
theorem dX2_allOnPage_3 : decode cX2_allOnPage 3 = .ok (.istore_n 2, 1) := by decide +kernel
theorem dX2_allOnPage_4 : decode cX2_allOnPage 4 = .ok (.iload_n 2, 1) := by decide +kernel
theorem dX2_allOnPage_5 : decode cX2_allOnPage 5 = .ok (.aload_n 0, 1) := by decide +kernel
theorem dX2_allOnPage_6 : decode cX2_allOnPage 6 = .ok (.getfield 24, 3) := by decide +kernel
theorem dX2_allOnPage_9 : decode cX2_allOnPage 9 = .ok (.if_icmp .ge 28, 3) := by decide +kernel
theorem dX2_allOnPage_12 : decode cX2_allOnPage 12 = .ok (.aload_n 0, 1) := by decide +kernel
theorem dX2_allOnPage_13 : decode cX2_allOnPage 13 = .ok (.iload_n 2, 1) := by decide +kernel
theorem dX2_allOnPage_14 : decode cX2_allOnPage 14 = .ok (.aload_n 0, 1) := by decide +kernel
theorem dX2_allOnPage_15 : decode cX2_allOnPage 15 = .ok (.getfield 9, 3) := by decide +kernel
theorem dX2_allOnPage_18 : decode cX2_allOnPage 18 = .ok (.aload_n 0, 1) := by decide +kernel
theorem dX2_allOnPage_19 : decode cX2_allOnPage 19 = .ok (.getfield 15, 3) := by decide +kernel
theorem dX2_allOnPage_22 : decode cX2_allOnPage 22 = .ok (.invokevirtual 53, 3) := by decide +kernel
theorem dX2_allOnPage_25 : decode cX2_allOnPage 25 = .ok (.ifCond .eq 6, 3) := by decide +kernel
theorem dX2_allOnPage_28 : decode cX2_allOnPage 28 = .ok (.iinc 1 1, 3) := by decide +kernel
theorem dX2_allOnPage_31 : decode cX2_allOnPage 31 = .ok (.iinc 2 1, 3) := by decide +kernel
theorem dX2_allOnPage_34 : decode cX2_allOnPage 34 = .ok (.goto (-30), 3) := by decide +kernel
theorem dX2_allOnPage_37 : decode cX2_allOnPage 37 = .ok (.iload_n 1, 1) := by decide +kernel
theorem dX2_allOnPage_38 : decode cX2_allOnPage 38 = .ok (.ireturn, 1) := by decide +kernel
theorem dX3_init_0 : decode cX3_init 0 = .ok (.aload_n 0, 1) := by decide +kernel
theorem dX3_init_1 : decode cX3_init 1 = .ok (.invokespecial 3, 3) := by decide +kernel
theorem dX3_init_4 : decode cX3_init 4 = .ok (.aload_n 0, 1) := by decide +kernel
theorem dX3_init_5 : decode cX3_init 5 = .ok (.bipush 100, 2) := by decide +kernel
theorem dX3_init_7 : decode cX3_init 7 = .ok (.newarray .int, 2) := by decide +kernel
theorem dX3_init_9 : decode cX3_init 9 = .ok (.putfield 9, 3) := by decide +kernel
theorem dX3_init_12 : decode cX3_init 12 = .ok (.aload_n 0, 1) := by decide +kernel
theorem dX3_init_13 : decode cX3_init 13 = .ok (.iconst 0, 1) := by decide +kernel
theorem dX3_init_14 : decode cX3_init 14 = .ok (.putfield 15, 3) := by decide +kernel
theorem dX3_init_17 : decode cX3_init 17 = .ok (.aload_n 0, 1) := by decide +kernel
theorem dX3_init_18 : decode cX3_init 18 = .ok (.iconst 0, 1) := by decide +kernel
theorem dX3_init_19 : decode cX3_init 19 = .ok (.putfield 19, 3) := by decide +kernel
theorem dX3_init_22 : decode cX3_init 22 = .ok (.aload_n 0, 1) := by decide +kernel
theorem dX3_init_23 : decode cX3_init 23 = .ok (.iconst (-1), 1) := by decide +kernel
theorem dX3_init_24 : decode cX3_init 24 = .ok (.putfield 22, 3) := by decide +kernel
theorem dX3_init_27 : decode cX3_init 27 = .ok (.return_, 1) := by decide +kernel
theorem dX4_init_0 : decode cX4_init 0 = .ok (.aload_n 0, 1) := by decide +kernel
theorem dX4_init_1 : decode cX4_init 1 = .ok (.invokespecial 1, 3) := by decide +kernel
theorem dX4_init_4 : decode cX4_init 4 = .ok (.aload_n 0, 1) := by decide +kernel
theorem dX4_init_5 : decode cX4_init 5 = .ok (.new 7, 3) := by decide +kernel
theorem dX4_init_8 : decode cX4_init 8 = .ok (.dup, 1) := by decide +kernel
theorem dX4_init_9 : decode cX4_init 9 = .ok (.invokespecial 9, 3) := by decide +kernel
theorem dX4_init_12 : decode cX4_init 12 = .ok (.putfield 10, 3) := by decide +kernel
theorem dX4_init_15 : decode cX4_init 15 = .ok (.aload_n 0, 1) := by decide +kernel
theorem dX4_init_16 : decode cX4_init 16 = .ok (.new 7, 3) := by decide +kernel
theorem dX4_init_19 : decode cX4_init 19 = .ok (.dup, 1) := by decide +kernel
theorem dX4_init_20 : decode cX4_init 20 = .ok (.invokespecial 9, 3) := by decide +kernel
theorem dX4_init_23 : decode cX4_init 23 = .ok (.putfield 16, 3) := by decide +kernel
theorem dX4_init_26 : decode cX4_init 26 = .ok (.aload_n 0, 1) := by decide +kernel
theorem dX4_init_27 : decode cX4_init 27 = .ok (.new 19, 3) := by decide +kernel
theorem dX4_init_30 : decode cX4_init 30 = .ok (.dup, 1) := by decide +kernel
theorem dX4_init_31 : decode cX4_init 31 = .ok (.invokespecial 21, 3) := by decide +kernel
theorem dX4_init_34 : decode cX4_init 34 = .ok (.putfield 22, 3) := by decide +kernel
theorem dX4_init_37 : decode cX4_init 37 = .ok (.aload_n 0, 1) := by decide +kernel
theorem dX4_init_38 : decode cX4_init 38 = .ok (.new 26, 3) := by decide +kernel
theorem dX4_init_41 : decode cX4_init 41 = .ok (.dup, 1) := by decide +kernel
theorem dX4_init_42 : decode cX4_init 42 = .ok (.invokespecial 28, 3) := by decide +kernel
theorem dX4_init_45 : decode cX4_init 45 = .ok (.putfield 29, 3) := by decide +kernel
theorem dX4_init_48 : decode cX4_init 48 = .ok (.aload_n 0, 1) := by decide +kernel
theorem dX4_init_49 : decode cX4_init 49 = .ok (.getfield 10, 3) := by decide +kernel
theorem dX4_init_52 : decode cX4_init 52 = .ok (.invokevirtual 33, 3) := by decide +kernel
theorem dX4_init_55 : decode cX4_init 55 = .ok (.return_, 1) := by decide +kernel
theorem dX4_setPage_0 : decode cX4_setPage 0 = .ok (.iload_n 1, 1) := by decide +kernel
theorem dX4_setPage_1 : decode cX4_setPage 1 = .ok (.invokestatic 36, 3) := by decide +kernel
theorem dX4_setPage_4 : decode cX4_setPage 4 = .ok (.ifCond .eq 23, 3) := by decide +kernel
theorem dX4_setPage_7 : decode cX4_setPage 7 = .ok (.iload_n 2, 1) := by decide +kernel
theorem dX4_setPage_8 : decode cX4_setPage 8 = .ok (.invokestatic 36, 3) := by decide +kernel
theorem dX4_setPage_11 : decode cX4_setPage 11 = .ok (.ifCond .eq 16, 3) := by decide +kernel
theorem dX4_setPage_14 : decode cX4_setPage 14 = .ok (.iload_n 2, 1) := by decide +kernel
theorem dX4_setPage_15 : decode cX4_setPage 15 = .ok (.iload_n 1, 1) := by decide +kernel
theorem dX4_setPage_16 : decode cX4_setPage 16 = .ok (.if_icmp .lt 11, 3) := by decide +kernel
theorem dX4_setPage_19 : decode cX4_setPage 19 = .ok (.iload_n 2, 1) := by decide +kernel
theorem dX4_setPage_20 : decode cX4_setPage 20 = .ok (.iload_n 1, 1) := by decide +kernel
theorem dX4_setPage_21 : decode cX4_setPage 21 = .ok (.isub, 1) := by decide +kernel
theorem dX4_setPage_22 : decode cX4_setPage 22 = .ok (.bipush 42, 2) := by decide +kernel
theorem dX4_setPage_24 : decode cX4_setPage 24 = .ok (.if_icmp .lt 5, 3) := by decide +kernel
theorem dX4_setPage_27 : decode cX4_setPage 27 = .ok (.iconst (-1), 1) := by decide +kernel
theorem dX4_setPage_28 : decode cX4_setPage 28 = .ok (.ireturn, 1) := by decide +kernel
theorem dX4_setPage_29 : decode cX4_setPage 29 = .ok (.aload_n 0, 1) := by decide +kernel
theorem dX4_setPage_30 : decode cX4_setPage 30 = .ok (.getfield 22, 3) := by decide +kernel
theorem dX4_setPage_33 : decode cX4_setPage 33 = .ok (.aload_n 0, 1) := by decide +kernel
theorem dX4_setPage_34 : decode cX4_setPage 34 = .ok (.getfield 10, 3) := by decide +kernel
theorem dX4_setPage_37 : decode cX4_setPage 37 = .ok (.getfield 40, 3) := by decide +kernel
theorem dX4_setPage_40 : decode cX4_setPage 40 = .ok (.invokevirtual 44, 3) := by decide +kernel
theorem dX4_setPage_43 : decode cX4_setPage 43 = .ok (.aload_n 0, 1) := by decide +kernel
theorem dX4_setPage_44 : decode cX4_setPage 44 = .ok (.getfield 10, 3) := by decide +kernel
theorem dX4_setPage_47 : decode cX4_setPage 47 = .ok (.getfield 40, 3) := by decide +kernel
theorem dX4_setPage_50 : decode cX4_setPage 50 = .ok (.iload_n 1, 1) := by decide +kernel
theorem dX4_setPage_51 : decode cX4_setPage 51 = .ok (.putfield 48, 3) := by decide +kernel
theorem dX4_setPage_54 : decode cX4_setPage 54 = .ok (.aload_n 0, 1) := by decide +kernel
theorem dX4_setPage_55 : decode cX4_setPage 55 = .ok (.getfield 10, 3) := by decide +kernel
theorem dX4_setPage_58 : decode cX4_setPage 58 = .ok (.getfield 40, 3) := by decide +kernel
theorem dX4_setPage_61 : decode cX4_setPage 61 = .ok (.iload_n 2, 1) := by decide +kernel
theorem dX4_setPage_62 : decode cX4_setPage 62 = .ok (.putfield 54, 3) := by decide +kernel
theorem dX4_setPage_65 : decode cX4_setPage 65 = .ok (.aload_n 0, 1) := by decide +kernel
theorem dX4_setPage_66 : decode cX4_setPage 66 = .ok (.getfield 10, 3) := by decide +kernel
theorem dX4_setPage_69 : decode cX4_setPage 69 = .ok (.invokevirtual 33, 3) := by decide +kernel
theorem dX4_setPage_72 : decode cX4_setPage 72 = .ok (.aload_n 0, 1) := by decide +kernel
theorem dX4_setPage_73 : decode cX4_setPage 73 = .ok (.getfield 10, 3) := by decide +kernel
theorem dX4_setPage_76 : decode cX4_setPage 76 = .ok (.getfield 57, 3) := by decide +kernel
theorem dX4_setPage_79 : decode cX4_setPage 79 = .ok (.ireturn, 1) := by decide +kernel
theorem dX4_setWeek_0 : decode cX4_setWeek 0 = .ok (.iload_n 1, 1) := by decide +kernel
theorem dX4_setWeek_1 : decode cX4_setWeek 1 = .ok (.iconst 0, 1) := by decide +kernel
theorem dX4_setWeek_2 : decode cX4_setWeek 2 = .ok (.bipush 6, 2) := by decide +kernel
theorem dX4_setWeek_4 : decode cX4_setWeek 4 = .ok (.invokestatic 60, 3) := by decide +kernel
theorem dX4_setWeek_7 : decode cX4_setWeek 7 = .ok (.ifCond .ne 5, 3) := by decide +kernel
theorem dX4_setWeek_10 : decode cX4_setWeek 10 = .ok (.iconst (-1), 1) := by decide +kernel
theorem dX4_setWeek_11 : decode cX4_setWeek 11 = .ok (.ireturn, 1) := by decide +kernel
theorem dX4_setWeek_12 : decode cX4_setWeek 12 = .ok (.aload_n 0, 1) := by decide +kernel
theorem dX4_setWeek_13 : decode cX4_setWeek 13 = .ok (.getfield 22, 3) := by decide +kernel
theorem dX4_setWeek_16 : decode cX4_setWeek 16 = .ok (.aload_n 0, 1) := by decide +kernel
theorem dX4_setWeek_17 : decode cX4_setWeek 17 = .ok (.getfield 10, 3) := by decide +kernel
theorem dX4_setWeek_20 : decode cX4_setWeek 20 = .ok (.getfield 40, 3) := by decide +kernel
theorem dX4_setWeek_23 : decode cX4_setWeek 23 = .ok (.invokevirtual 44, 3) := by decide +kernel
theorem dX4_setWeek_26 : decode cX4_setWeek 26 = .ok (.aload_n 0, 1) := by decide +kernel
theorem dX4_setWeek_27 : decode cX4_setWeek 27 = .ok (.getfield 10, 3) := by decide +kernel
theorem dX4_setWeek_30 : decode cX4_setWeek 30 = .ok (.getfield 40, 3) := by decide +kernel
theorem dX4_setWeek_33 : decode cX4_setWeek 33 = .ok (.iload_n 1, 1) := by decide +kernel
theorem dX4_setWeek_34 : decode cX4_setWeek 34 = .ok (.putfield 64, 3) := by decide +kernel
theorem dX4_setWeek_37 : decode cX4_setWeek 37 = .ok (.aload_n 0, 1) := by decide +kernel
theorem dX4_setWeek_38 : decode cX4_setWeek 38 = .ok (.getfield 10, 3) := by decide +kernel
theorem dX4_setWeek_41 : decode cX4_setWeek 41 = .ok (.invokevirtual 33, 3) := by decide +kernel
theorem dX4_setWeek_44 : decode cX4_setWeek 44 = .ok (.aload_n 0, 1) := by decide +kernel
theorem dX4_setWeek_45 : decode cX4_setWeek 45 = .ok (.getfield 10, 3) := by decide +kernel
theorem dX4_setWeek_48 : decode cX4_setWeek 48 = .ok (.getfield 57, 3) := by decide +kernel
theorem dX4_setWeek_51 : decode cX4_setWeek 51 = .ok (.ireturn, 1) := by decide +kernel
theorem dX4_setRows_0 : decode cX4_setRows 0 = .ok (.iload_n 1, 1) := by decide +kernel
theorem dX4_setRows_1 : decode cX4_setRows 1 = .ok (.iconst 1, 1) := by decide +kernel
theorem dX4_setRows_2 : decode cX4_setRows 2 = .ok (.bipush 12, 2) := by decide +kernel
theorem dX4_setRows_4 : decode cX4_setRows 4 = .ok (.invokestatic 60, 3) := by decide +kernel
theorem dX4_setRows_7 : decode cX4_setRows 7 = .ok (.ifCond .ne 5, 3) := by decide +kernel
theorem dX4_setRows_10 : decode cX4_setRows 10 = .ok (.iconst (-1), 1) := by decide +kernel
theorem dX4_setRows_11 : decode cX4_setRows 11 = .ok (.ireturn, 1) := by decide +kernel
theorem dX4_setRows_12 : decode cX4_setRows 12 = .ok (.aload_n 0, 1) := by decide +kernel
theorem dX4_setRows_13 : decode cX4_setRows 13 = .ok (.getfield 22, 3) := by decide +kernel
theorem dX4_setRows_16 : decode cX4_setRows 16 = .ok (.aload_n 0, 1) := by decide +kernel
theorem dX4_setRows_17 : decode cX4_setRows 17 = .ok (.getfield 10, 3) := by decide +kernel
theorem dX4_setRows_20 : decode cX4_setRows 20 = .ok (.getfield 40, 3) := by decide +kernel
theorem dX4_setRows_23 : decode cX4_setRows 23 = .ok (.invokevirtual 44, 3) := by decide +kernel
theorem dX4_setRows_26 : decode cX4_setRows 26 = .ok (.aload_n 0, 1) := by decide +kernel
theorem dX4_setRows_27 : decode cX4_setRows 27 = .ok (.getfield 10, 3) := by decide +kernel
theorem dX4_setRows_30 : decode cX4_setRows 30 = .ok (.getfield 40, 3) := by decide +kernel
theorem dX4_setRows_33 : decode cX4_setRows 33 = .ok (.getfield 67, 3) := by decide +kernel
theorem dX4_setRows_36 : decode cX4_setRows 36 = .ok (.istore_n 2, 1) := by decide +kernel
theorem dX4_setRows_37 : decode cX4_setRows 37 = .ok (.aload_n 0, 1) := by decide +kernel
theorem dX4_setRows_38 : decode cX4_setRows 38 = .ok (.getfield 10, 3) := by decide +kernel
theorem dX4_setRows_41 : decode cX4_setRows 41 = .ok (.getfield 40, 3) := by decide +kernel
theorem dX4_setRows_44 : decode cX4_setRows 44 = .ok (.iload_n 1, 1) := by decide +kernel
theorem dX4_setRows_45 : decode cX4_setRows 45 = .ok (.putfield 67, 3) := by decide +kernel
theorem dX4_setRows_48 : decode cX4_setRows 48 = .ok (.iload_n 2, 1) := by decide +kernel
theorem dX4_setRows_49 : decode cX4_setRows 49 = .ok (.ireturn, 1) := by decide +kernel
theorem dX4_week_0 : decode cX4_week 0 = .ok (.iload_n 1, 1) := by decide +kernel
theorem dX4_week_1 : decode cX4_week 1 = .ok (.ifCond .lt 12, 3) := by decide +kernel
theorem dX4_week_4 : decode cX4_week 4 = .ok (.iload_n 2, 1) := by decide +kernel
theorem dX4_week_5 : decode cX4_week 5 = .ok (.iconst 0, 1) := by decide +kernel
theorem dX4_week_6 : decode cX4_week 6 = .ok (.iconst 5, 1) := by decide +kernel
theorem dX4_week_7 : decode cX4_week 7 = .ok (.invokestatic 60, 3) := by decide +kernel
theorem dX4_week_10 : decode cX4_week 10 = .ok (.ifCond .ne 5, 3) := by decide +kernel
theorem dX4_week_13 : decode cX4_week 13 = .ok (.iconst (-1), 1) := by decide +kernel
theorem dX4_week_14 : decode cX4_week 14 = .ok (.ireturn, 1) := by decide +kernel
theorem dX4_week_15 : decode cX4_week 15 = .ok (.iload_n 1, 1) := by decide +kernel
theorem dX4_week_16 : decode cX4_week 16 = .ok (.aload_n 0, 1) := by decide +kernel
theorem dX4_week_17 : decode cX4_week 17 = .ok (.getfield 10, 3) := by decide +kernel
theorem dX4_week_20 : decode cX4_week 20 = .ok (.getfield 57, 3) := by decide +kernel
theorem dX4_week_23 : decode cX4_week 23 = .ok (.if_icmp .lt 6, 3) := by decide +kernel
theorem dX4_week_26 : decode cX4_week 26 = .ok (.bipush (-9), 2) := by decide +kernel
theorem dX4_week_28 : decode cX4_week 28 = .ok (.ireturn, 1) := by decide +kernel
theorem dX4_week_29 : decode cX4_week 29 = .ok (.aload_n 0, 1) := by decide +kernel
theorem dX4_week_30 : decode cX4_week 30 = .ok (.getfield 10, 3) := by decide +kernel
theorem dX4_week_33 : decode cX4_week 33 = .ok (.iload_n 1, 1) := by decide +kernel
theorem dX4_week_34 : decode cX4_week 34 = .ok (.invokevirtual 70, 3) := by decide +kernel
theorem dX4_week_37 : decode cX4_week 37 = .ok (.istore_n 3, 1) := by decide +kernel
theorem dX4_week_38 : decode cX4_week 38 = .ok (.aload_n 0, 1) := by decide +kernel
theorem dX4_week_39 : decode cX4_week 39 = .ok (.getfield 10, 3) := by decide +kernel
theorem dX4_week_42 : decode cX4_week 42 = .ok (.iload_n 1, 1) := by decide +kernel
theorem dX4_week_43 : decode cX4_week 43 = .ok (.invokevirtual 74, 3) := by decide +kernel
theorem dX4_week_46 : decode cX4_week 46 = .ok (.istore 4, 2) := by decide +kernel
theorem dX4_week_48 : decode cX4_week 48 = .ok (.iload_n 2, 1) := by decide +kernel
theorem dX4_week_49 : decode cX4_week 49 = .ok (.tableswitch 72 0 4 #[35, 37, 40, 49, 58], 35) := by decide +kernel
theorem dX4_week_84 : decode cX4_week 84 = .ok (.iload_n 3, 1) := by decide +kernel
theorem dX4_week_85 : decode cX4_week 85 = .ok (.ireturn, 1) := by decide +kernel
theorem dX4_week_86 : decode cX4_week 86 = .ok (.iload 4, 2) := by decide +kernel
theorem dX4_week_88 : decode cX4_week 88 = .ok (.ireturn, 1) := by decide +kernel
theorem dX4_week_89 : decode cX4_week 89 = .ok (.aload_n 0, 1) := by decide +kernel
theorem dX4_week_90 : decode cX4_week 90 = .ok (.getfield 10, 3) := by decide +kernel
theorem dX4_week_93 : decode cX4_week 93 = .ok (.iload_n 1, 1) := by decide +kernel
theorem dX4_week_94 : decode cX4_week 94 = .ok (.invokevirtual 77, 3) := by decide +kernel
theorem dX4_week_97 : decode cX4_week 97 = .ok (.ireturn, 1) := by decide +kernel
theorem dX4_week_98 : decode cX4_week 98 = .ok (.aload_n 0, 1) := by decide +kernel
theorem dX4_week_99 : decode cX4_week 99 = .ok (.getfield 10, 3) := by decide +kernel
theorem dX4_week_102 : decode cX4_week 102 = .ok (.iload_n 1, 1) := by decide +kernel
theorem dX4_week_103 : decode cX4_week 103 = .ok (.invokevirtual 80, 3) := by decide +kernel
theorem dX4_week_106 : decode cX4_week 106 = .ok (.ireturn, 1) := by decide +kernel
theorem dX4_week_107 : decode cX4_week 107 = .ok (.aload_n 0, 1) := by decide +kernel
theorem dX4_week_108 : decode cX4_week 108 = .ok (.getfield 10, 3) := by decide +kernel
theorem dX4_week_111 : decode cX4_week 111 = .ok (.getfield 40, 3) := by decide +kernel
theorem dX4_week_114 : decode cX4_week 114 = .ok (.iload_n 3, 1) := by decide +kernel
theorem dX4_week_115 : decode cX4_week 115 = .ok (.iload 4, 2) := by decide +kernel
theorem dX4_week_117 : decode cX4_week 117 = .ok (.invokevirtual 83, 3) := by decide +kernel
theorem dX4_week_120 : decode cX4_week 120 = .ok (.ireturn, 1) := by decide +kernel
theorem dX4_week_121 : decode cX4_week 121 = .ok (.aload_n 0, 1) := by decide +kernel
theorem dX4_week_122 : decode cX4_week 122 = .ok (.getfield 10, 3) := by decide +kernel
theorem dX4_week_125 : decode cX4_week 125 = .ok (.iload_n 3, 1) := by decide +kernel
theorem dX4_week_126 : decode cX4_week 126 = .ok (.iload 4, 2) := by decide +kernel
theorem dX4_week_128 : decode cX4_week 128 = .ok (.aload_n 0, 1) := by decide +kernel
theorem dX4_week_129 : decode cX4_week 129 = .ok (.getfield 10, 3) := by decide +kernel
theorem dX4_week_132 : decode cX4_week 132 = .ok (.getfield 40, 3) := by decide +kernel
theorem dX4_week_135 : decode cX4_week 135 = .ok (.getfield 67, 3) := by decide +kernel
theorem dX4_week_138 : decode cX4_week 138 = .ok (.invokevirtual 87, 3) := by decide +kernel
theorem dX4_week_141 : decode cX4_week 141 = .ok (.ireturn, 1) := by decide +kernel
theorem dX4_add_0 : decode cX4_add 0 = .ok (.iload_n 1, 1) := by decide +kernel
theorem dX4_add_1 : decode cX4_add 1 = .ok (.invokestatic 36, 3) := by decide +kernel
theorem dX4_add_4 : decode cX4_add 4 = .ok (.ifCond .eq 30, 3) := by decide +kernel
theorem dX4_add_7 : decode cX4_add 7 = .ok (.iload_n 2, 1) := by decide +kernel
theorem dX4_add_8 : decode cX4_add 8 = .ok (.invokestatic 36, 3) := by decide +kernel
theorem dX4_add_11 : decode cX4_add 11 = .ok (.ifCond .eq 23, 3) := by decide +kernel
theorem dX4_add_14 : decode cX4_add 14 = .ok (.iload_n 2, 1) := by decide +kernel
theorem dX4_add_15 : decode cX4_add 15 = .ok (.iload_n 1, 1) := by decide +kernel
theorem dX4_add_16 : decode cX4_add 16 = .ok (.if_icmp .lt 18, 3) := by decide +kernel
theorem dX4_add_19 : decode cX4_add 19 = .ok (.iload_n 3, 1) := by decide +kernel
theorem dX4_add_20 : decode cX4_add 20 = .ok (.invokestatic 108, 3) := by decide +kernel
theorem dX4_add_23 : decode cX4_add 23 = .ok (.ifCond .eq 11, 3) := by decide +kernel
theorem dX4_add_26 : decode cX4_add 26 = .ok (.iload 4, 2) := by decide +kernel
theorem dX4_add_28 : decode cX4_add 28 = .ok (.invokestatic 111, 3) := by decide +kernel
theorem dX4_add_31 : decode cX4_add 31 = .ok (.ifCond .ne 5, 3) := by decide +kernel
theorem dX4_add_34 : decode cX4_add 34 = .ok (.iconst (-1), 1) := by decide +kernel
theorem dX4_add_35 : decode cX4_add 35 = .ok (.ireturn, 1) := by decide +kernel
theorem dX4_add_36 : decode cX4_add 36 = .ok (.aload_n 0, 1) := by decide +kernel
theorem dX4_add_37 : decode cX4_add 37 = .ok (.getfield 10, 3) := by decide +kernel
theorem dX4_add_40 : decode cX4_add 40 = .ok (.getfield 40, 3) := by decide +kernel
theorem dX4_add_43 : decode cX4_add 43 = .ok (.getfield 105, 3) := by decide +kernel
theorem dX4_add_46 : decode cX4_add 46 = .ok (.bipush 24, 2) := by decide +kernel
theorem dX4_add_48 : decode cX4_add 48 = .ok (.if_icmp .lt 6, 3) := by decide +kernel
theorem dX4_add_51 : decode cX4_add 51 = .ok (.bipush (-3), 2) := by decide +kernel
theorem dX4_add_53 : decode cX4_add 53 = .ok (.ireturn, 1) := by decide +kernel
theorem dX4_add_54 : decode cX4_add 54 = .ok (.aload_n 0, 1) := by decide +kernel
theorem dX4_add_55 : decode cX4_add 55 = .ok (.getfield 22, 3) := by decide +kernel
theorem dX4_add_58 : decode cX4_add 58 = .ok (.aload_n 0, 1) := by decide +kernel
theorem dX4_add_59 : decode cX4_add 59 = .ok (.getfield 10, 3) := by decide +kernel
theorem dX4_add_62 : decode cX4_add 62 = .ok (.getfield 40, 3) := by decide +kernel
theorem dX4_add_65 : decode cX4_add 65 = .ok (.invokevirtual 44, 3) := by decide +kernel
theorem dX4_add_68 : decode cX4_add 68 = .ok (.aload_n 0, 1) := by decide +kernel
theorem dX4_add_69 : decode cX4_add 69 = .ok (.getfield 10, 3) := by decide +kernel
theorem dX4_add_72 : decode cX4_add 72 = .ok (.getfield 40, 3) := by decide +kernel
theorem dX4_add_75 : decode cX4_add 75 = .ok (.iload_n 1, 1) := by decide +kernel
theorem dX4_add_76 : decode cX4_add 76 = .ok (.iload_n 2, 1) := by decide +kernel
theorem dX4_add_77 : decode cX4_add 77 = .ok (.iload_n 3, 1) := by decide +kernel
theorem dX4_add_78 : decode cX4_add 78 = .ok (.iload 4, 2) := by decide +kernel
theorem dX4_add_80 : decode cX4_add 80 = .ok (.invokevirtual 114, 3) := by decide +kernel
theorem dX4_add_83 : decode cX4_add 83 = .ok (.aload_n 0, 1) := by decide +kernel
theorem dX4_add_84 : decode cX4_add 84 = .ok (.getfield 10, 3) := by decide +kernel
theorem dX4_add_87 : decode cX4_add 87 = .ok (.invokevirtual 33, 3) := by decide +kernel
theorem dX4_add_90 : decode cX4_add 90 = .ok (.aload_n 0, 1) := by decide +kernel
theorem dX4_add_91 : decode cX4_add 91 = .ok (.getfield 10, 3) := by decide +kernel
theorem dX4_add_94 : decode cX4_add 94 = .ok (.getfield 40, 3) := by decide +kernel
theorem dX4_add_97 : decode cX4_add 97 = .ok (.getfield 105, 3) := by decide +kernel
theorem dX4_add_100 : decode cX4_add 100 = .ok (.iconst 1, 1) := by decide +kernel
theorem dX4_add_101 : decode cX4_add 101 = .ok (.isub, 1) := by decide +kernel
theorem dX4_add_102 : decode cX4_add 102 = .ok (.ireturn, 1) := by decide +kernel
theorem dX4_move_0 : decode cX4_move 0 = .ok (.aload_n 0, 1) := by decide +kernel
theorem dX4_move_1 : decode cX4_move 1 = .ok (.iload_n 1, 1) := by decide +kernel
theorem dX4_move_2 : decode cX4_move 2 = .ok (.invokevirtual 117, 3) := by decide +kernel
theorem dX4_move_5 : decode cX4_move 5 = .ok (.ifCond .eq 16, 3) := by decide +kernel
theorem dX4_move_8 : decode cX4_move 8 = .ok (.iload_n 2, 1) := by decide +kernel
theorem dX4_move_9 : decode cX4_move 9 = .ok (.sipush (-999), 3) := by decide +kernel
theorem dX4_move_12 : decode cX4_move 12 = .ok (.sipush 999, 3) := by decide +kernel
theorem dX4_move_15 : decode cX4_move 15 = .ok (.invokestatic 60, 3) := by decide +kernel
theorem dX4_move_18 : decode cX4_move 18 = .ok (.ifCond .ne 5, 3) := by decide +kernel
theorem dX4_move_21 : decode cX4_move 21 = .ok (.iconst (-1), 1) := by decide +kernel
theorem dX4_move_22 : decode cX4_move 22 = .ok (.ireturn, 1) := by decide +kernel
theorem dX4_move_23 : decode cX4_move 23 = .ok (.aload_n 0, 1) := by decide +kernel
theorem dX4_move_24 : decode cX4_move 24 = .ok (.getfield 10, 3) := by decide +kernel
theorem dX4_move_27 : decode cX4_move 27 = .ok (.getfield 40, 3) := by decide +kernel
theorem dX4_move_30 : decode cX4_move 30 = .ok (.getfield 123, 3) := by decide +kernel
theorem dX4_move_33 : decode cX4_move 33 = .ok (.iload_n 1, 1) := by decide +kernel
theorem dX4_move_34 : decode cX4_move 34 = .ok (.iaload, 1) := by decide +kernel
theorem dX4_move_35 : decode cX4_move 35 = .ok (.iload_n 2, 1) := by decide +kernel
theorem dX4_move_36 : decode cX4_move 36 = .ok (.iadd, 1) := by decide +kernel
theorem dX4_move_37 : decode cX4_move 37 = .ok (.istore_n 3, 1) := by decide +kernel
theorem dX4_move_38 : decode cX4_move 38 = .ok (.aload_n 0, 1) := by decide +kernel
theorem dX4_move_39 : decode cX4_move 39 = .ok (.getfield 10, 3) := by decide +kernel
theorem dX4_move_42 : decode cX4_move 42 = .ok (.getfield 40, 3) := by decide +kernel
theorem dX4_move_45 : decode cX4_move 45 = .ok (.getfield 127, 3) := by decide +kernel
theorem dX4_move_48 : decode cX4_move 48 = .ok (.iload_n 1, 1) := by decide +kernel
theorem dX4_move_49 : decode cX4_move 49 = .ok (.iaload, 1) := by decide +kernel
theorem dX4_move_50 : decode cX4_move 50 = .ok (.iload_n 2, 1) := by decide +kernel
theorem dX4_move_51 : decode cX4_move 51 = .ok (.iadd, 1) := by decide +kernel
theorem dX4_move_52 : decode cX4_move 52 = .ok (.istore 4, 2) := by decide +kernel
theorem dX4_move_54 : decode cX4_move 54 = .ok (.iload_n 3, 1) := by decide +kernel
theorem dX4_move_55 : decode cX4_move 55 = .ok (.invokestatic 36, 3) := by decide +kernel
theorem dX4_move_58 : decode cX4_move 58 = .ok (.ifCond .eq 11, 3) := by decide +kernel
theorem dX4_move_61 : decode cX4_move 61 = .ok (.iload 4, 2) := by decide +kernel
theorem dX4_move_63 : decode cX4_move 63 = .ok (.invokestatic 36, 3) := by decide +kernel
theorem dX4_move_66 : decode cX4_move 66 = .ok (.ifCond .ne 6, 3) := by decide +kernel
theorem dX4_move_69 : decode cX4_move 69 = .ok (.bipush (-2), 2) := by decide +kernel
theorem dX4_move_71 : decode cX4_move 71 = .ok (.ireturn, 1) := by decide +kernel
theorem dX4_move_72 : decode cX4_move 72 = .ok (.aload_n 0, 1) := by decide +kernel
theorem dX4_move_73 : decode cX4_move 73 = .ok (.getfield 22, 3) := by decide +kernel
theorem dX4_move_76 : decode cX4_move 76 = .ok (.aload_n 0, 1) := by decide +kernel
theorem dX4_move_77 : decode cX4_move 77 = .ok (.getfield 10, 3) := by decide +kernel
theorem dX4_move_80 : decode cX4_move 80 = .ok (.getfield 40, 3) := by decide +kernel
theorem dX4_move_83 : decode cX4_move 83 = .ok (.invokevirtual 44, 3) := by decide +kernel
theorem dX4_move_86 : decode cX4_move 86 = .ok (.aload_n 0, 1) := by decide +kernel
theorem dX4_move_87 : decode cX4_move 87 = .ok (.getfield 10, 3) := by decide +kernel
theorem dX4_move_90 : decode cX4_move 90 = .ok (.getfield 40, 3) := by decide +kernel
theorem dX4_move_93 : decode cX4_move 93 = .ok (.getfield 123, 3) := by decide +kernel
theorem dX4_move_96 : decode cX4_move 96 = .ok (.iload_n 1, 1) := by decide +kernel
theorem dX4_move_97 : decode cX4_move 97 = .ok (.iload_n 3, 1) := by decide +kernel
theorem dX4_move_98 : decode cX4_move 98 = .ok (.iastore, 1) := by decide +kernel
theorem dX4_move_99 : decode cX4_move 99 = .ok (.aload_n 0, 1) := by decide +kernel
theorem dX4_move_100 : decode cX4_move 100 = .ok (.getfield 10, 3) := by decide +kernel
theorem dX4_move_103 : decode cX4_move 103 = .ok (.getfield 40, 3) := by decide +kernel
theorem dX4_move_106 : decode cX4_move 106 = .ok (.getfield 127, 3) := by decide +kernel
theorem dX4_move_109 : decode cX4_move 109 = .ok (.iload_n 1, 1) := by decide +kernel
theorem dX4_move_110 : decode cX4_move 110 = .ok (.iload 4, 2) := by decide +kernel
theorem dX4_move_112 : decode cX4_move 112 = .ok (.iastore, 1) := by decide +kernel
theorem dX4_move_113 : decode cX4_move 113 = .ok (.aload_n 0, 1) := by decide +kernel
theorem dX4_move_114 : decode cX4_move 114 = .ok (.getfield 10, 3) := by decide +kernel
theorem dX4_move_117 : decode cX4_move 117 = .ok (.invokevirtual 33, 3) := by decide +kernel
theorem dX4_move_120 : decode cX4_move 120 = .ok (.iload_n 3, 1) := by decide +kernel
theorem dX4_move_121 : decode cX4_move 121 = .ok (.ireturn, 1) := by decide +kernel
theorem dX4_entry_0 : decode cX4_entry 0 = .ok (.aload_n 0, 1) := by decide +kernel
theorem dX4_entry_1 : decode cX4_entry 1 = .ok (.iload_n 1, 1) := by decide +kernel
theorem dX4_entry_2 : decode cX4_entry 2 = .ok (.invokevirtual 117, 3) := by decide +kernel
theorem dX4_entry_5 : decode cX4_entry 5 = .ok (.ifCond .ne 5, 3) := by decide +kernel
theorem dX4_entry_8 : decode cX4_entry 8 = .ok (.iconst (-1), 1) := by decide +kernel
theorem dX4_entry_9 : decode cX4_entry 9 = .ok (.ireturn, 1) := by decide +kernel
theorem dX4_entry_10 : decode cX4_entry 10 = .ok (.iload_n 2, 1) := by decide +kernel
theorem dX4_entry_11 : decode cX4_entry 11 = .ok (.tableswitch 142 0 7 #[45, 58, 71, 84, 97, 112, 124, 133], 45) := by decide +kernel
theorem dX4_entry_56 : decode cX4_entry 56 = .ok (.aload_n 0, 1) := by decide +kernel
theorem dX4_entry_57 : decode cX4_entry 57 = .ok (.getfield 10, 3) := by decide +kernel
theorem dX4_entry_60 : decode cX4_entry 60 = .ok (.getfield 40, 3) := by decide +kernel
theorem dX4_entry_63 : decode cX4_entry 63 = .ok (.getfield 123, 3) := by decide +kernel
theorem dX4_entry_66 : decode cX4_entry 66 = .ok (.iload_n 1, 1) := by decide +kernel
theorem dX4_entry_67 : decode cX4_entry 67 = .ok (.iaload, 1) := by decide +kernel
theorem dX4_entry_68 : decode cX4_entry 68 = .ok (.ireturn, 1) := by decide +kernel
theorem dX4_entry_69 : decode cX4_entry 69 = .ok (.aload_n 0, 1) := by decide +kernel
theorem dX4_entry_70 : decode cX4_entry 70 = .ok (.getfield 10, 3) := by decide +kernel
theorem dX4_entry_73 : decode cX4_entry 73 = .ok (.getfield 40, 3) := by decide +kernel
theorem dX4_entry_76 : decode cX4_entry 76 = .ok (.getfield 127, 3) := by decide +kernel
theorem dX4_entry_79 : decode cX4_entry 79 = .ok (.iload_n 1, 1) := by decide +kernel
theorem dX4_entry_80 : decode cX4_entry 80 = .ok (.iaload, 1) := by decide +kernel
theorem dX4_entry_81 : decode cX4_entry 81 = .ok (.ireturn, 1) := by decide +kernel
theorem dX4_entry_82 : decode cX4_entry 82 = .ok (.aload_n 0, 1) := by decide +kernel
theorem dX4_entry_83 : decode cX4_entry 83 = .ok (.getfield 10, 3) := by decide +kernel
theorem dX4_entry_86 : decode cX4_entry 86 = .ok (.getfield 40, 3) := by decide +kernel
theorem dX4_entry_89 : decode cX4_entry 89 = .ok (.getfield 130, 3) := by decide +kernel
theorem dX4_entry_92 : decode cX4_entry 92 = .ok (.iload_n 1, 1) := by decide +kernel
theorem dX4_entry_93 : decode cX4_entry 93 = .ok (.iaload, 1) := by decide +kernel
theorem dX4_entry_94 : decode cX4_entry 94 = .ok (.ireturn, 1) := by decide +kernel
theorem dX4_entry_95 : decode cX4_entry 95 = .ok (.aload_n 0, 1) := by decide +kernel
theorem dX4_entry_96 : decode cX4_entry 96 = .ok (.getfield 10, 3) := by decide +kernel
theorem dX4_entry_99 : decode cX4_entry 99 = .ok (.getfield 40, 3) := by decide +kernel
theorem dX4_entry_102 : decode cX4_entry 102 = .ok (.getfield 133, 3) := by decide +kernel
theorem dX4_entry_105 : decode cX4_entry 105 = .ok (.iload_n 1, 1) := by decide +kernel
theorem dX4_entry_106 : decode cX4_entry 106 = .ok (.iaload, 1) := by decide +kernel
theorem dX4_entry_107 : decode cX4_entry 107 = .ok (.ireturn, 1) := by decide +kernel
theorem dX4_entry_108 : decode cX4_entry 108 = .ok (.aload_n 0, 1) := by decide +kernel
theorem dX4_entry_109 : decode cX4_entry 109 = .ok (.getfield 10, 3) := by decide +kernel
theorem dX4_entry_112 : decode cX4_entry 112 = .ok (.getfield 40, 3) := by decide +kernel
theorem dX4_entry_115 : decode cX4_entry 115 = .ok (.iload_n 1, 1) := by decide +kernel
theorem dX4_entry_116 : decode cX4_entry 116 = .ok (.invokevirtual 136, 3) := by decide +kernel
theorem dX4_entry_119 : decode cX4_entry 119 = .ok (.invokestatic 139, 3) := by decide +kernel
theorem dX4_entry_122 : decode cX4_entry 122 = .ok (.ireturn, 1) := by decide +kernel
theorem dX4_entry_123 : decode cX4_entry 123 = .ok (.aload_n 0, 1) := by decide +kernel
theorem dX4_entry_124 : decode cX4_entry 124 = .ok (.getfield 10, 3) := by decide +kernel
theorem dX4_entry_127 : decode cX4_entry 127 = .ok (.getfield 40, 3) := by decide +kernel
theorem dX4_entry_130 : decode cX4_entry 130 = .ok (.iload_n 1, 1) := by decide +kernel
theorem dX4_entry_131 : decode cX4_entry 131 = .ok (.invokevirtual 143, 3) := by decide +kernel
theorem dX4_entry_134 : decode cX4_entry 134 = .ok (.ireturn, 1) := by decide +kernel
theorem dX4_entry_135 : decode cX4_entry 135 = .ok (.aload_n 0, 1) := by decide +kernel
theorem dX4_entry_136 : decode cX4_entry 136 = .ok (.getfield 10, 3) := by decide +kernel
theorem dX4_entry_139 : decode cX4_entry 139 = .ok (.iload_n 1, 1) := by decide +kernel
theorem dX4_entry_140 : decode cX4_entry 140 = .ok (.invokevirtual 146, 3) := by decide +kernel
theorem dX4_entry_143 : decode cX4_entry 143 = .ok (.ireturn, 1) := by decide +kernel
theorem dX4_entry_144 : decode cX4_entry 144 = .ok (.aload_n 0, 1) := by decide +kernel
theorem dX4_entry_145 : decode cX4_entry 145 = .ok (.getfield 10, 3) := by decide +kernel
theorem dX4_entry_148 : decode cX4_entry 148 = .ok (.iload_n 1, 1) := by decide +kernel
theorem dX4_entry_149 : decode cX4_entry 149 = .ok (.invokevirtual 149, 3) := by decide +kernel
theorem dX4_entry_152 : decode cX4_entry 152 = .ok (.ireturn, 1) := by decide +kernel
theorem dX4_entry_153 : decode cX4_entry 153 = .ok (.iconst (-1), 1) := by decide +kernel
theorem dX4_entry_154 : decode cX4_entry 154 = .ok (.ireturn, 1) := by decide +kernel
theorem dX4_bar_0 : decode cX4_bar 0 = .ok (.aload_n 0, 1) := by decide +kernel
theorem dX4_bar_1 : decode cX4_bar 1 = .ok (.iload_n 1, 1) := by decide +kernel
theorem dX4_bar_2 : decode cX4_bar 2 = .ok (.invokevirtual 117, 3) := by decide +kernel
theorem dX4_bar_5 : decode cX4_bar 5 = .ok (.ifCond .eq 16, 3) := by decide +kernel
theorem dX4_bar_8 : decode cX4_bar 8 = .ok (.iload_n 2, 1) := by decide +kernel
theorem dX4_bar_9 : decode cX4_bar 9 = .ok (.ifCond .lt 12, 3) := by decide +kernel
theorem dX4_bar_12 : decode cX4_bar 12 = .ok (.iload_n 3, 1) := by decide +kernel
theorem dX4_bar_13 : decode cX4_bar 13 = .ok (.iconst 0, 1) := by decide +kernel
theorem dX4_bar_14 : decode cX4_bar 14 = .ok (.iconst 4, 1) := by decide +kernel
theorem dX4_bar_15 : decode cX4_bar 15 = .ok (.invokestatic 60, 3) := by decide +kernel
theorem dX4_bar_18 : decode cX4_bar 18 = .ok (.ifCond .ne 5, 3) := by decide +kernel
theorem dX4_bar_21 : decode cX4_bar 21 = .ok (.iconst (-1), 1) := by decide +kernel
theorem dX4_bar_22 : decode cX4_bar 22 = .ok (.ireturn, 1) := by decide +kernel
theorem dX4_bar_23 : decode cX4_bar 23 = .ok (.iload_n 2, 1) := by decide +kernel
theorem dX4_bar_24 : decode cX4_bar 24 = .ok (.aload_n 0, 1) := by decide +kernel
theorem dX4_bar_25 : decode cX4_bar 25 = .ok (.getfield 10, 3) := by decide +kernel
theorem dX4_bar_28 : decode cX4_bar 28 = .ok (.getfield 57, 3) := by decide +kernel
theorem dX4_bar_31 : decode cX4_bar 31 = .ok (.if_icmp .ge 19, 3) := by decide +kernel
theorem dX4_bar_34 : decode cX4_bar 34 = .ok (.aload_n 0, 1) := by decide +kernel
theorem dX4_bar_35 : decode cX4_bar 35 = .ok (.getfield 10, 3) := by decide +kernel
theorem dX4_bar_38 : decode cX4_bar 38 = .ok (.getfield 152, 3) := by decide +kernel
theorem dX4_bar_41 : decode cX4_bar 41 = .ok (.iload_n 1, 1) := by decide +kernel
theorem dX4_bar_42 : decode cX4_bar 42 = .ok (.aaload, 1) := by decide +kernel
theorem dX4_bar_43 : decode cX4_bar 43 = .ok (.iload_n 2, 1) := by decide +kernel
theorem dX4_bar_44 : decode cX4_bar 44 = .ok (.iaload, 1) := by decide +kernel
theorem dX4_bar_45 : decode cX4_bar 45 = .ok (.bipush (-9), 2) := by decide +kernel
theorem dX4_bar_47 : decode cX4_bar 47 = .ok (.if_icmp .ne 6, 3) := by decide +kernel
theorem dX4_bar_50 : decode cX4_bar 50 = .ok (.bipush (-9), 2) := by decide +kernel
theorem dX4_bar_52 : decode cX4_bar 52 = .ok (.ireturn, 1) := by decide +kernel
theorem dX4_bar_53 : decode cX4_bar 53 = .ok (.aload_n 0, 1) := by decide +kernel
theorem dX4_bar_54 : decode cX4_bar 54 = .ok (.getfield 10, 3) := by decide +kernel
theorem dX4_bar_57 : decode cX4_bar 57 = .ok (.iload_n 2, 1) := by decide +kernel
theorem dX4_bar_58 : decode cX4_bar 58 = .ok (.invokevirtual 70, 3) := by decide +kernel
theorem dX4_bar_61 : decode cX4_bar 61 = .ok (.istore 4, 2) := by decide +kernel
theorem dX4_bar_63 : decode cX4_bar 63 = .ok (.aload_n 0, 1) := by decide +kernel
theorem dX4_bar_64 : decode cX4_bar 64 = .ok (.getfield 10, 3) := by decide +kernel
theorem dX4_bar_67 : decode cX4_bar 67 = .ok (.iload_n 2, 1) := by decide +kernel
theorem dX4_bar_68 : decode cX4_bar 68 = .ok (.invokevirtual 74, 3) := by decide +kernel
theorem dX4_bar_71 : decode cX4_bar 71 = .ok (.istore 5, 2) := by decide +kernel
theorem dX4_bar_73 : decode cX4_bar 73 = .ok (.iload_n 3, 1) := by decide +kernel
theorem dX4_bar_74 : decode cX4_bar 74 = .ok (.tableswitch 104 0 3 #[30, 42, 60, 78], 30) := by decide +kernel
theorem dX4_bar_104 : decode cX4_bar 104 = .ok (.aload_n 0, 1) := by decide +kernel
theorem dX4_bar_105 : decode cX4_bar 105 = .ok (.getfield 10, 3) := by decide +kernel
theorem dX4_bar_108 : decode cX4_bar 108 = .ok (.getfield 152, 3) := by decide +kernel
theorem dX4_bar_111 : decode cX4_bar 111 = .ok (.iload_n 1, 1) := by decide +kernel
theorem dX4_bar_112 : decode cX4_bar 112 = .ok (.aaload, 1) := by decide +kernel
theorem dX4_bar_113 : decode cX4_bar 113 = .ok (.iload_n 2, 1) := by decide +kernel
