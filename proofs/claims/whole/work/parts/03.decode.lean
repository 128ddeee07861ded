theorem dX0_init_0 : decode cX0_init 0 = .ok (.aload_n 0, 1) := by decide +kernel
theorem dX0_init_1 : decode cX0_init 1 = .ok (.invokespecial 3, 3) := by decide +kernel
theorem dX0_init_4 : decode cX0_init 4 = .ok (.aload_n 0, 1) := by decide +kernel
theorem dX0_init_5 : decode cX0_init 5 = .ok (.new 9, 3) := by decide +kernel
theorem dX0_init_8 : decode cX0_init 8 = .ok (.dup, 1) := by decide +kernel
theorem dX0_init_9 : decode cX0_init 9 = .ok (.invokespecial 11, 3) := by decide +kernel
theorem dX0_init_12 : decode cX0_init 12 = .ok (.putfield 12, 3) := by decide +kernel
theorem dX0_init_15 : decode cX0_init 15 = .ok (.aload_n 0, 1) := by decide +kernel
theorem dX0_init_16 : decode cX0_init 16 = .ok (.iconst 0, 1) := by decide +kernel
theorem dX0_init_17 : decode cX0_init 17 = .ok (.putfield 18, 3) := by decide +kernel
theorem dX0_init_20 : decode cX0_init 20 = .ok (.aload_n 0, 1) := by decide +kernel
theorem dX0_init_21 : decode cX0_init 21 = .ok (.bipush 8, 2) := by decide +kernel
theorem dX0_init_23 : decode cX0_init 23 = .ok (.newarray .int, 2) := by decide +kernel
theorem dX0_init_25 : decode cX0_init 25 = .ok (.putfield 22, 3) := by decide +kernel
theorem dX0_init_28 : decode cX0_init 28 = .ok (.aload_n 0, 1) := by decide +kernel
theorem dX0_init_29 : decode cX0_init 29 = .ok (.bipush 24, 2) := by decide +kernel
theorem dX0_init_31 : decode cX0_init 31 = .ok (.bipush 7, 2) := by decide +kernel
theorem dX0_init_33 : decode cX0_init 33 = .ok (.multianewarray 26 2, 4) := by decide +kernel
theorem dX0_init_37 : decode cX0_init 37 = .ok (.putfield 28, 3) := by decide +kernel
theorem dX0_init_40 : decode cX0_init 40 = .ok (.aload_n 0, 1) := by decide +kernel
theorem dX0_init_41 : decode cX0_init 41 = .ok (.bipush 24, 2) := by decide +kernel
theorem dX0_init_43 : decode cX0_init 43 = .ok (.newarray .int, 2) := by decide +kernel
theorem dX0_init_45 : decode cX0_init 45 = .ok (.putfield 31, 3) := by decide +kernel
theorem dX0_init_48 : decode cX0_init 48 = .ok (.aload_n 0, 1) := by decide +kernel
theorem dX0_init_49 : decode cX0_init 49 = .ok (.bipush 42, 2) := by decide +kernel
theorem dX0_init_51 : decode cX0_init 51 = .ok (.newarray .int, 2) := by decide +kernel
theorem dX0_init_53 : decode cX0_init 53 = .ok (.putfield 34, 3) := by decide +kernel
theorem dX0_init_56 : decode cX0_init 56 = .ok (.aload_n 0, 1) := by decide +kernel
theorem dX0_init_57 : decode cX0_init 57 = .ok (.bipush 24, 2) := by decide +kernel
theorem dX0_init_59 : decode cX0_init 59 = .ok (.newarray .int, 2) := by decide +kernel
theorem dX0_init_61 : decode cX0_init 61 = .ok (.putfield 37, 3) := by decide +kernel
theorem dX0_init_64 : decode cX0_init 64 = .ok (.aload_n 0, 1) := by decide +kernel
theorem dX0_init_65 : decode cX0_init 65 = .ok (.iconst 0, 1) := by decide +kernel
theorem dX0_init_66 : decode cX0_init 66 = .ok (.putfield 40, 3) := by decide +kernel
theorem dX0_init_69 : decode cX0_init 69 = .ok (.return_, 1) := by decide +kernel
theorem dX0_lay_0 : decode cX0_lay 0 = .ok (.aload_n 0, 1) := by decide +kernel
theorem dX0_lay_1 : decode cX0_lay 1 = .ok (.invokevirtual 43, 3) := by decide +kernel
theorem dX0_lay_4 : decode cX0_lay 4 = .ok (.aload_n 0, 1) := by decide +kernel
theorem dX0_lay_5 : decode cX0_lay 5 = .ok (.invokevirtual 46, 3) := by decide +kernel
theorem dX0_lay_8 : decode cX0_lay 8 = .ok (.iconst 0, 1) := by decide +kernel
theorem dX0_lay_9 : decode cX0_lay 9 = .ok (.istore_n 1, 1) := by decide +kernel
theorem dX0_lay_10 : decode cX0_lay 10 = .ok (.iload_n 1, 1) := by decide +kernel
theorem dX0_lay_11 : decode cX0_lay 11 = .ok (.aload_n 0, 1) := by decide +kernel
theorem dX0_lay_12 : decode cX0_lay 12 = .ok (.getfield 18, 3) := by decide +kernel
theorem dX0_lay_15 : decode cX0_lay 15 = .ok (.if_icmp .ge 41, 3) := by decide +kernel
theorem dX0_lay_18 : decode cX0_lay 18 = .ok (.aload_n 0, 1) := by decide +kernel
theorem dX0_lay_19 : decode cX0_lay 19 = .ok (.iload_n 1, 1) := by decide +kernel
theorem dX0_lay_20 : decode cX0_lay 20 = .ok (.invokevirtual 49, 3) := by decide +kernel
theorem dX0_lay_23 : decode cX0_lay 23 = .ok (.iconst 0, 1) := by decide +kernel
theorem dX0_lay_24 : decode cX0_lay 24 = .ok (.istore_n 2, 1) := by decide +kernel
theorem dX0_lay_25 : decode cX0_lay 25 = .ok (.iload_n 2, 1) := by decide +kernel
theorem dX0_lay_26 : decode cX0_lay 26 = .ok (.aload_n 0, 1) := by decide +kernel
theorem dX0_lay_27 : decode cX0_lay 27 = .ok (.getfield 40, 3) := by decide +kernel
theorem dX0_lay_30 : decode cX0_lay 30 = .ok (.if_icmp .ge 20, 3) := by decide +kernel
theorem dX0_lay_33 : decode cX0_lay 33 = .ok (.aload_n 0, 1) := by decide +kernel
theorem dX0_lay_34 : decode cX0_lay 34 = .ok (.aload_n 0, 1) := by decide +kernel
theorem dX0_lay_35 : decode cX0_lay 35 = .ok (.getfield 37, 3) := by decide +kernel
theorem dX0_lay_38 : decode cX0_lay 38 = .ok (.iload_n 2, 1) := by decide +kernel
theorem dX0_lay_39 : decode cX0_lay 39 = .ok (.iaload, 1) := by decide +kernel
theorem dX0_lay_40 : decode cX0_lay 40 = .ok (.iload_n 1, 1) := by decide +kernel
theorem dX0_lay_41 : decode cX0_lay 41 = .ok (.invokevirtual 53, 3) := by decide +kernel
theorem dX0_lay_44 : decode cX0_lay 44 = .ok (.iinc 2 1, 3) := by decide +kernel
theorem dX0_lay_47 : decode cX0_lay 47 = .ok (.goto (-22), 3) := by decide +kernel
theorem dX0_lay_50 : decode cX0_lay 50 = .ok (.iinc 1 1, 3) := by decide +kernel
theorem dX0_lay_53 : decode cX0_lay 53 = .ok (.goto (-43), 3) := by decide +kernel
theorem dX0_lay_56 : decode cX0_lay 56 = .ok (.aload_n 0, 1) := by decide +kernel
theorem dX0_lay_57 : decode cX0_lay 57 = .ok (.invokevirtual 57, 3) := by decide +kernel
theorem dX0_lay_60 : decode cX0_lay 60 = .ok (.iconst 0, 1) := by decide +kernel
theorem dX0_lay_61 : decode cX0_lay 61 = .ok (.istore_n 1, 1) := by decide +kernel
theorem dX0_lay_62 : decode cX0_lay 62 = .ok (.iload_n 1, 1) := by decide +kernel
theorem dX0_lay_63 : decode cX0_lay 63 = .ok (.aload_n 0, 1) := by decide +kernel
theorem dX0_lay_64 : decode cX0_lay 64 = .ok (.getfield 40, 3) := by decide +kernel
theorem dX0_lay_67 : decode cX0_lay 67 = .ok (.if_icmp .ge 19, 3) := by decide +kernel
theorem dX0_lay_70 : decode cX0_lay 70 = .ok (.aload_n 0, 1) := by decide +kernel
theorem dX0_lay_71 : decode cX0_lay 71 = .ok (.aload_n 0, 1) := by decide +kernel
theorem dX0_lay_72 : decode cX0_lay 72 = .ok (.getfield 37, 3) := by decide +kernel
theorem dX0_lay_75 : decode cX0_lay 75 = .ok (.iload_n 1, 1) := by decide +kernel
theorem dX0_lay_76 : decode cX0_lay 76 = .ok (.iaload, 1) := by decide +kernel
theorem dX0_lay_77 : decode cX0_lay 77 = .ok (.invokevirtual 60, 3) := by decide +kernel
theorem dX0_lay_80 : decode cX0_lay 80 = .ok (.iinc 1 1, 3) := by decide +kernel
theorem dX0_lay_83 : decode cX0_lay 83 = .ok (.goto (-21), 3) := by decide +kernel
theorem dX0_lay_86 : decode cX0_lay 86 = .ok (.return_, 1) := by decide +kernel
theorem dX0_cutWeeks_0 : decode cX0_cutWeeks 0 = .ok (.aload_n 0, 1) := by decide +kernel
theorem dX0_cutWeeks_1 : decode cX0_cutWeeks 1 = .ok (.iconst 0, 1) := by decide +kernel
theorem dX0_cutWeeks_2 : decode cX0_cutWeeks 2 = .ok (.putfield 18, 3) := by decide +kernel
theorem dX0_cutWeeks_5 : decode cX0_cutWeeks 5 = .ok (.aload_n 0, 1) := by decide +kernel
theorem dX0_cutWeeks_6 : decode cX0_cutWeeks 6 = .ok (.getfield 12, 3) := by decide +kernel
theorem dX0_cutWeeks_9 : decode cX0_cutWeeks 9 = .ok (.getfield 63, 3) := by decide +kernel
theorem dX0_cutWeeks_12 : decode cX0_cutWeeks 12 = .ok (.istore_n 1, 1) := by decide +kernel
theorem dX0_cutWeeks_13 : decode cX0_cutWeeks 13 = .ok (.iload_n 1, 1) := by decide +kernel
theorem dX0_cutWeeks_14 : decode cX0_cutWeeks 14 = .ok (.aload_n 0, 1) := by decide +kernel
theorem dX0_cutWeeks_15 : decode cX0_cutWeeks 15 = .ok (.getfield 12, 3) := by decide +kernel
theorem dX0_cutWeeks_18 : decode cX0_cutWeeks 18 = .ok (.getfield 66, 3) := by decide +kernel
theorem dX0_cutWeeks_21 : decode cX0_cutWeeks 21 = .ok (.if_icmp .gt 63, 3) := by decide +kernel
theorem dX0_cutWeeks_24 : decode cX0_cutWeeks 24 = .ok (.aload_n 0, 1) := by decide +kernel
theorem dX0_cutWeeks_25 : decode cX0_cutWeeks 25 = .ok (.getfield 18, 3) := by decide +kernel
theorem dX0_cutWeeks_28 : decode cX0_cutWeeks 28 = .ok (.bipush 7, 2) := by decide +kernel
theorem dX0_cutWeeks_30 : decode cX0_cutWeeks 30 = .ok (.if_icmp .ge 54, 3) := by decide +kernel
theorem dX0_cutWeeks_33 : decode cX0_cutWeeks 33 = .ok (.iload_n 1, 1) := by decide +kernel
theorem dX0_cutWeeks_34 : decode cX0_cutWeeks 34 = .ok (.aload_n 0, 1) := by decide +kernel
theorem dX0_cutWeeks_35 : decode cX0_cutWeeks 35 = .ok (.getfield 12, 3) := by decide +kernel
theorem dX0_cutWeeks_38 : decode cX0_cutWeeks 38 = .ok (.getfield 63, 3) := by decide +kernel
theorem dX0_cutWeeks_41 : decode cX0_cutWeeks 41 = .ok (.if_icmp .eq 17, 3) := by decide +kernel
theorem dX0_cutWeeks_44 : decode cX0_cutWeeks 44 = .ok (.iload_n 1, 1) := by decide +kernel
theorem dX0_cutWeeks_45 : decode cX0_cutWeeks 45 = .ok (.bipush 7, 2) := by decide +kernel
theorem dX0_cutWeeks_47 : decode cX0_cutWeeks 47 = .ok (.irem, 1) := by decide +kernel
theorem dX0_cutWeeks_48 : decode cX0_cutWeeks 48 = .ok (.aload_n 0, 1) := by decide +kernel
theorem dX0_cutWeeks_49 : decode cX0_cutWeeks 49 = .ok (.getfield 12, 3) := by decide +kernel
theorem dX0_cutWeeks_52 : decode cX0_cutWeeks 52 = .ok (.getfield 69, 3) := by decide +kernel
theorem dX0_cutWeeks_55 : decode cX0_cutWeeks 55 = .ok (.if_icmp .ne 23, 3) := by decide +kernel
theorem dX0_cutWeeks_58 : decode cX0_cutWeeks 58 = .ok (.aload_n 0, 1) := by decide +kernel
theorem dX0_cutWeeks_59 : decode cX0_cutWeeks 59 = .ok (.getfield 22, 3) := by decide +kernel
theorem dX0_cutWeeks_62 : decode cX0_cutWeeks 62 = .ok (.aload_n 0, 1) := by decide +kernel
theorem dX0_cutWeeks_63 : decode cX0_cutWeeks 63 = .ok (.getfield 18, 3) := by decide +kernel
theorem dX0_cutWeeks_66 : decode cX0_cutWeeks 66 = .ok (.iload_n 1, 1) := by decide +kernel
theorem dX0_cutWeeks_67 : decode cX0_cutWeeks 67 = .ok (.iastore, 1) := by decide +kernel
theorem dX0_cutWeeks_68 : decode cX0_cutWeeks 68 = .ok (.aload_n 0, 1) := by decide +kernel
theorem dX0_cutWeeks_69 : decode cX0_cutWeeks 69 = .ok (.dup, 1) := by decide +kernel
theorem dX0_cutWeeks_70 : decode cX0_cutWeeks 70 = .ok (.getfield 18, 3) := by decide +kernel
theorem dX0_cutWeeks_73 : decode cX0_cutWeeks 73 = .ok (.iconst 1, 1) := by decide +kernel
theorem dX0_cutWeeks_74 : decode cX0_cutWeeks 74 = .ok (.iadd, 1) := by decide +kernel
theorem dX0_cutWeeks_75 : decode cX0_cutWeeks 75 = .ok (.putfield 18, 3) := by decide +kernel
theorem dX0_cutWeeks_78 : decode cX0_cutWeeks 78 = .ok (.iinc 1 1, 3) := by decide +kernel
theorem dX0_cutWeeks_81 : decode cX0_cutWeeks 81 = .ok (.goto (-68), 3) := by decide +kernel
theorem dX0_cutWeeks_84 : decode cX0_cutWeeks 84 = .ok (.aload_n 0, 1) := by decide +kernel
theorem dX0_cutWeeks_85 : decode cX0_cutWeeks 85 = .ok (.getfield 22, 3) := by decide +kernel
theorem dX0_cutWeeks_88 : decode cX0_cutWeeks 88 = .ok (.aload_n 0, 1) := by decide +kernel
theorem dX0_cutWeeks_89 : decode cX0_cutWeeks 89 = .ok (.getfield 18, 3) := by decide +kernel
theorem dX0_cutWeeks_92 : decode cX0_cutWeeks 92 = .ok (.aload_n 0, 1) := by decide +kernel
theorem dX0_cutWeeks_93 : decode cX0_cutWeeks 93 = .ok (.getfield 12, 3) := by decide +kernel
theorem dX0_cutWeeks_96 : decode cX0_cutWeeks 96 = .ok (.getfield 66, 3) := by decide +kernel
theorem dX0_cutWeeks_99 : decode cX0_cutWeeks 99 = .ok (.iconst 1, 1) := by decide +kernel
theorem dX0_cutWeeks_100 : decode cX0_cutWeeks 100 = .ok (.iadd, 1) := by decide +kernel
theorem dX0_cutWeeks_101 : decode cX0_cutWeeks 101 = .ok (.iastore, 1) := by decide +kernel
theorem dX0_cutWeeks_102 : decode cX0_cutWeeks 102 = .ok (.return_, 1) := by decide +kernel
theorem dX0_wipe_0 : decode cX0_wipe 0 = .ok (.iconst 0, 1) := by decide +kernel
theorem dX0_wipe_1 : decode cX0_wipe 1 = .ok (.istore_n 1, 1) := by decide +kernel
theorem dX0_wipe_2 : decode cX0_wipe 2 = .ok (.iload_n 1, 1) := by decide +kernel
theorem dX0_wipe_3 : decode cX0_wipe 3 = .ok (.bipush 42, 2) := by decide +kernel
theorem dX0_wipe_5 : decode cX0_wipe 5 = .ok (.if_icmp .ge 16, 3) := by decide +kernel
theorem dX0_wipe_8 : decode cX0_wipe 8 = .ok (.aload_n 0, 1) := by decide +kernel
theorem dX0_wipe_9 : decode cX0_wipe 9 = .ok (.getfield 34, 3) := by decide +kernel
theorem dX0_wipe_12 : decode cX0_wipe 12 = .ok (.iload_n 1, 1) := by decide +kernel
theorem dX0_wipe_13 : decode cX0_wipe 13 = .ok (.iconst 0, 1) := by decide +kernel
theorem dX0_wipe_14 : decode cX0_wipe 14 = .ok (.iastore, 1) := by decide +kernel
theorem dX0_wipe_15 : decode cX0_wipe 15 = .ok (.iinc 1 1, 3) := by decide +kernel
theorem dX0_wipe_18 : decode cX0_wipe 18 = .ok (.goto (-16), 3) := by decide +kernel
theorem dX0_wipe_21 : decode cX0_wipe 21 = .ok (.iconst 0, 1) := by decide +kernel
theorem dX0_wipe_22 : decode cX0_wipe 22 = .ok (.istore_n 1, 1) := by decide +kernel
theorem dX0_wipe_23 : decode cX0_wipe 23 = .ok (.iload_n 1, 1) := by decide +kernel
theorem dX0_wipe_24 : decode cX0_wipe 24 = .ok (.bipush 24, 2) := by decide +kernel
theorem dX0_wipe_26 : decode cX0_wipe 26 = .ok (.if_icmp .ge 41, 3) := by decide +kernel
theorem dX0_wipe_29 : decode cX0_wipe 29 = .ok (.aload_n 0, 1) := by decide +kernel
theorem dX0_wipe_30 : decode cX0_wipe 30 = .ok (.getfield 31, 3) := by decide +kernel
theorem dX0_wipe_33 : decode cX0_wipe 33 = .ok (.iload_n 1, 1) := by decide +kernel
theorem dX0_wipe_34 : decode cX0_wipe 34 = .ok (.bipush (-9), 2) := by decide +kernel
theorem dX0_wipe_36 : decode cX0_wipe 36 = .ok (.iastore, 1) := by decide +kernel
theorem dX0_wipe_37 : decode cX0_wipe 37 = .ok (.iconst 0, 1) := by decide +kernel
theorem dX0_wipe_38 : decode cX0_wipe 38 = .ok (.istore_n 2, 1) := by decide +kernel
theorem dX0_wipe_39 : decode cX0_wipe 39 = .ok (.iload_n 2, 1) := by decide +kernel
theorem dX0_wipe_40 : decode cX0_wipe 40 = .ok (.bipush 7, 2) := by decide +kernel
theorem dX0_wipe_42 : decode cX0_wipe 42 = .ok (.if_icmp .ge 19, 3) := by decide +kernel
theorem dX0_wipe_45 : decode cX0_wipe 45 = .ok (.aload_n 0, 1) := by decide +kernel
theorem dX0_wipe_46 : decode cX0_wipe 46 = .ok (.getfield 28, 3) := by decide +kernel
theorem dX0_wipe_49 : decode cX0_wipe 49 = .ok (.iload_n 1, 1) := by decide +kernel
theorem dX0_wipe_50 : decode cX0_wipe 50 = .ok (.aaload, 1) := by decide +kernel
theorem dX0_wipe_51 : decode cX0_wipe 51 = .ok (.iload_n 2, 1) := by decide +kernel
theorem dX0_wipe_52 : decode cX0_wipe 52 = .ok (.bipush (-9), 2) := by decide +kernel
theorem dX0_wipe_54 : decode cX0_wipe 54 = .ok (.iastore, 1) := by decide +kernel
theorem dX0_wipe_55 : decode cX0_wipe 55 = .ok (.iinc 2 1, 3) := by decide +kernel
theorem dX0_wipe_58 : decode cX0_wipe 58 = .ok (.goto (-19), 3) := by decide +kernel
theorem dX0_wipe_61 : decode cX0_wipe 61 = .ok (.iinc 1 1, 3) := by decide +kernel
theorem dX0_wipe_64 : decode cX0_wipe 64 = .ok (.goto (-41), 3) := by decide +kernel
theorem dX0_wipe_67 : decode cX0_wipe 67 = .ok (.return_, 1) := by decide +kernel
theorem dX0_orderBars_0 : decode cX0_orderBars 0 = .ok (.aload_n 0, 1) := by decide +kernel
theorem dX0_orderBars_1 : decode cX0_orderBars 1 = .ok (.iconst 0, 1) := by decide +kernel
theorem dX0_orderBars_2 : decode cX0_orderBars 2 = .ok (.putfield 40, 3) := by decide +kernel
theorem dX0_orderBars_5 : decode cX0_orderBars 5 = .ok (.iconst 0, 1) := by decide +kernel
theorem dX0_orderBars_6 : decode cX0_orderBars 6 = .ok (.istore_n 2, 1) := by decide +kernel
theorem dX0_orderBars_7 : decode cX0_orderBars 7 = .ok (.iload_n 2, 1) := by decide +kernel
theorem dX0_orderBars_8 : decode cX0_orderBars 8 = .ok (.aload_n 0, 1) := by decide +kernel
theorem dX0_orderBars_9 : decode cX0_orderBars 9 = .ok (.getfield 12, 3) := by decide +kernel
theorem dX0_orderBars_12 : decode cX0_orderBars 12 = .ok (.getfield 72, 3) := by decide +kernel
theorem dX0_orderBars_15 : decode cX0_orderBars 15 = .ok (.if_icmp .ge 104, 3) := by decide +kernel
theorem dX0_orderBars_18 : decode cX0_orderBars 18 = .ok (.aload_n 0, 1) := by decide +kernel
theorem dX0_orderBars_19 : decode cX0_orderBars 19 = .ok (.getfield 12, 3) := by decide +kernel
theorem dX0_orderBars_22 : decode cX0_orderBars 22 = .ok (.iload_n 2, 1) := by decide +kernel
theorem dX0_orderBars_23 : decode cX0_orderBars 23 = .ok (.invokevirtual 75, 3) := by decide +kernel
theorem dX0_orderBars_26 : decode cX0_orderBars 26 = .ok (.ifCond .eq 87, 3) := by decide +kernel
theorem dX0_orderBars_29 : decode cX0_orderBars 29 = .ok (.aload_n 0, 1) := by decide +kernel
theorem dX0_orderBars_30 : decode cX0_orderBars 30 = .ok (.getfield 12, 3) := by decide +kernel
theorem dX0_orderBars_33 : decode cX0_orderBars 33 = .ok (.iload_n 2, 1) := by decide +kernel
theorem dX0_orderBars_34 : decode cX0_orderBars 34 = .ok (.aload_n 0, 1) := by decide +kernel
theorem dX0_orderBars_35 : decode cX0_orderBars 35 = .ok (.iload_n 1, 1) := by decide +kernel
theorem dX0_orderBars_36 : decode cX0_orderBars 36 = .ok (.invokevirtual 79, 3) := by decide +kernel
theorem dX0_orderBars_39 : decode cX0_orderBars 39 = .ok (.aload_n 0, 1) := by decide +kernel
theorem dX0_orderBars_40 : decode cX0_orderBars 40 = .ok (.iload_n 1, 1) := by decide +kernel
theorem dX0_orderBars_41 : decode cX0_orderBars 41 = .ok (.invokevirtual 83, 3) := by decide +kernel
theorem dX0_orderBars_44 : decode cX0_orderBars 44 = .ok (.invokevirtual 86, 3) := by decide +kernel
theorem dX0_orderBars_47 : decode cX0_orderBars 47 = .ok (.ifCond .eq 66, 3) := by decide +kernel
theorem dX0_orderBars_50 : decode cX0_orderBars 50 = .ok (.aload_n 0, 1) := by decide +kernel
theorem dX0_orderBars_51 : decode cX0_orderBars 51 = .ok (.getfield 40, 3) := by decide +kernel
theorem dX0_orderBars_54 : decode cX0_orderBars 54 = .ok (.istore_n 3, 1) := by decide +kernel
theorem dX0_orderBars_55 : decode cX0_orderBars 55 = .ok (.iload_n 3, 1) := by decide +kernel
theorem dX0_orderBars_56 : decode cX0_orderBars 56 = .ok (.ifCond .le 40, 3) := by decide +kernel
theorem dX0_orderBars_59 : decode cX0_orderBars 59 = .ok (.aload_n 0, 1) := by decide +kernel
theorem dX0_orderBars_60 : decode cX0_orderBars 60 = .ok (.iload_n 2, 1) := by decide +kernel
theorem dX0_orderBars_61 : decode cX0_orderBars 61 = .ok (.aload_n 0, 1) := by decide +kernel
theorem dX0_orderBars_62 : decode cX0_orderBars 62 = .ok (.getfield 37, 3) := by decide +kernel
theorem dX0_orderBars_65 : decode cX0_orderBars 65 = .ok (.iload_n 3, 1) := by decide +kernel
theorem dX0_orderBars_66 : decode cX0_orderBars 66 = .ok (.iconst 1, 1) := by decide +kernel
theorem dX0_orderBars_67 : decode cX0_orderBars 67 = .ok (.isub, 1) := by decide +kernel
theorem dX0_orderBars_68 : decode cX0_orderBars 68 = .ok (.iaload, 1) := by decide +kernel
theorem dX0_orderBars_69 : decode cX0_orderBars 69 = .ok (.iload_n 1, 1) := by decide +kernel
theorem dX0_orderBars_70 : decode cX0_orderBars 70 = .ok (.invokevirtual 90, 3) := by decide +kernel
theorem dX0_orderBars_73 : decode cX0_orderBars 73 = .ok (.ifCond .eq 23, 3) := by decide +kernel
theorem dX0_orderBars_76 : decode cX0_orderBars 76 = .ok (.aload_n 0, 1) := by decide +kernel
theorem dX0_orderBars_77 : decode cX0_orderBars 77 = .ok (.getfield 37, 3) := by decide +kernel
theorem dX0_orderBars_80 : decode cX0_orderBars 80 = .ok (.iload_n 3, 1) := by decide +kernel
theorem dX0_orderBars_81 : decode cX0_orderBars 81 = .ok (.aload_n 0, 1) := by decide +kernel
theorem dX0_orderBars_82 : decode cX0_orderBars 82 = .ok (.getfield 37, 3) := by decide +kernel
theorem dX0_orderBars_85 : decode cX0_orderBars 85 = .ok (.iload_n 3, 1) := by decide +kernel
theorem dX0_orderBars_86 : decode cX0_orderBars 86 = .ok (.iconst 1, 1) := by decide +kernel
theorem dX0_orderBars_87 : decode cX0_orderBars 87 = .ok (.isub, 1) := by decide +kernel
theorem dX0_orderBars_88 : decode cX0_orderBars 88 = .ok (.iaload, 1) := by decide +kernel
theorem dX0_orderBars_89 : decode cX0_orderBars 89 = .ok (.iastore, 1) := by decide +kernel
theorem dX0_orderBars_90 : decode cX0_orderBars 90 = .ok (.iinc 3 (-1), 3) := by decide +kernel
theorem dX0_orderBars_93 : decode cX0_orderBars 93 = .ok (.goto (-38), 3) := by decide +kernel
theorem dX0_orderBars_96 : decode cX0_orderBars 96 = .ok (.aload_n 0, 1) := by decide +kernel
theorem dX0_orderBars_97 : decode cX0_orderBars 97 = .ok (.getfield 37, 3) := by decide +kernel
theorem dX0_orderBars_100 : decode cX0_orderBars 100 = .ok (.iload_n 3, 1) := by decide +kernel
theorem dX0_orderBars_101 : decode cX0_orderBars 101 = .ok (.iload_n 2, 1) := by decide +kernel
theorem dX0_orderBars_102 : decode cX0_orderBars 102 = .ok (.iastore, 1) := by decide +kernel
theorem dX0_orderBars_103 : decode cX0_orderBars 103 = .ok (.aload_n 0, 1) := by decide +kernel
theorem dX0_orderBars_104 : decode cX0_orderBars 104 = .ok (.dup, 1) := by decide +kernel
theorem dX0_orderBars_105 : decode cX0_orderBars 105 = .ok (.getfield 40, 3) := by decide +kernel
theorem dX0_orderBars_108 : decode cX0_orderBars 108 = .ok (.iconst 1, 1) := by decide +kernel
theorem dX0_orderBars_109 : decode cX0_orderBars 109 = .ok (.iadd, 1) := by decide +kernel
theorem dX0_orderBars_110 : decode cX0_orderBars 110 = .ok (.putfield 40, 3) := by decide +kernel
theorem dX0_orderBars_113 : decode cX0_orderBars 113 = .ok (.iinc 2 1, 3) := by decide +kernel
theorem dX0_orderBars_116 : decode cX0_orderBars 116 = .ok (.goto (-109), 3) := by decide +kernel
theorem dX0_orderBars_119 : decode cX0_orderBars 119 = .ok (.return_, 1) := by decide +kernel
theorem dX0_isBarBefore_0 : decode cX0_isBarBefore 0 = .ok (.aload_n 0, 1) := by decide +kernel
theorem dX0_isBarBefore_1 : decode cX0_isBarBefore 1 = .ok (.getfield 12, 3) := by decide +kernel
theorem dX0_isBarBefore_4 : decode cX0_isBarBefore 4 = .ok (.getfield 93, 3) := by decide +kernel
theorem dX0_isBarBefore_7 : decode cX0_isBarBefore 7 = .ok (.iload_n 1, 1) := by decide +kernel
theorem dX0_isBarBefore_8 : decode cX0_isBarBefore 8 = .ok (.iaload, 1) := by decide +kernel
theorem dX0_isBarBefore_9 : decode cX0_isBarBefore 9 = .ok (.aload_n 0, 1) := by decide +kernel
theorem dX0_isBarBefore_10 : decode cX0_isBarBefore 10 = .ok (.iload_n 3, 1) := by decide +kernel
theorem dX0_isBarBefore_11 : decode cX0_isBarBefore 11 = .ok (.invokevirtual 79, 3) := by decide +kernel
theorem dX0_isBarBefore_14 : decode cX0_isBarBefore 14 = .ok (.if_icmp .ge 7, 3) := by decide +kernel
theorem dX0_isBarBefore_17 : decode cX0_isBarBefore 17 = .ok (.iconst 1, 1) := by decide +kernel
theorem dX0_isBarBefore_18 : decode cX0_isBarBefore 18 = .ok (.goto 4, 3) := by decide +kernel
theorem dX0_isBarBefore_21 : decode cX0_isBarBefore 21 = .ok (.iconst 0, 1) := by decide +kernel
theorem dX0_isBarBefore_22 : decode cX0_isBarBefore 22 = .ok (.istore 4, 2) := by decide +kernel
theorem dX0_isBarBefore_24 : decode cX0_isBarBefore 24 = .ok (.aload_n 0, 1) := by decide +kernel
theorem dX0_isBarBefore_25 : decode cX0_isBarBefore 25 = .ok (.getfield 12, 3) := by decide +kernel
theorem dX0_isBarBefore_28 : decode cX0_isBarBefore 28 = .ok (.getfield 93, 3) := by decide +kernel
theorem dX0_isBarBefore_31 : decode cX0_isBarBefore 31 = .ok (.iload_n 2, 1) := by decide +kernel
theorem dX0_isBarBefore_32 : decode cX0_isBarBefore 32 = .ok (.iaload, 1) := by decide +kernel
theorem dX0_isBarBefore_33 : decode cX0_isBarBefore 33 = .ok (.aload_n 0, 1) := by decide +kernel
theorem dX0_isBarBefore_34 : decode cX0_isBarBefore 34 = .ok (.iload_n 3, 1) := by decide +kernel
theorem dX0_isBarBefore_35 : decode cX0_isBarBefore 35 = .ok (.invokevirtual 79, 3) := by decide +kernel
theorem dX0_isBarBefore_38 : decode cX0_isBarBefore 38 = .ok (.if_icmp .ge 7, 3) := by decide +kernel
theorem dX0_isBarBefore_41 : decode cX0_isBarBefore 41 = .ok (.iconst 1, 1) := by decide +kernel
theorem dX0_isBarBefore_42 : decode cX0_isBarBefore 42 = .ok (.goto 4, 3) := by decide +kernel
theorem dX0_isBarBefore_45 : decode cX0_isBarBefore 45 = .ok (.iconst 0, 1) := by decide +kernel
theorem dX0_isBarBefore_46 : decode cX0_isBarBefore 46 = .ok (.istore 5, 2) := by decide +kernel
theorem dX0_isBarBefore_48 : decode cX0_isBarBefore 48 = .ok (.iload 4, 2) := by decide +kernel
theorem dX0_isBarBefore_50 : decode cX0_isBarBefore 50 = .ok (.iload 5, 2) := by decide +kernel
theorem dX0_isBarBefore_52 : decode cX0_isBarBefore 52 = .ok (.if_icmp .eq 6, 3) := by decide +kernel
theorem dX0_isBarBefore_55 : decode cX0_isBarBefore 55 = .ok (.iload 4, 2) := by decide +kernel
theorem dX0_isBarBefore_57 : decode cX0_isBarBefore 57 = .ok (.ireturn, 1) := by decide +kernel
theorem dX0_isBarBefore_58 : decode cX0_isBarBefore 58 = .ok (.iload 4, 2) := by decide +kernel
theorem dX0_isBarBefore_60 : decode cX0_isBarBefore 60 = .ok (.ifCond .eq 36, 3) := by decide +kernel
theorem dX0_isBarBefore_63 : decode cX0_isBarBefore 63 = .ok (.iload_n 3, 1) := by decide +kernel
theorem dX0_isBarBefore_64 : decode cX0_isBarBefore 64 = .ok (.ifCond .le 30, 3) := by decide +kernel
theorem dX0_isBarBefore_67 : decode cX0_isBarBefore 67 = .ok (.aload_n 0, 1) := by decide +kernel
theorem dX0_isBarBefore_68 : decode cX0_isBarBefore 68 = .ok (.getfield 28, 3) := by decide +kernel
theorem dX0_isBarBefore_71 : decode cX0_isBarBefore 71 = .ok (.iload_n 1, 1) := by decide +kernel
theorem dX0_isBarBefore_72 : decode cX0_isBarBefore 72 = .ok (.aaload, 1) := by decide +kernel
theorem dX0_isBarBefore_73 : decode cX0_isBarBefore 73 = .ok (.iload_n 3, 1) := by decide +kernel
theorem dX0_isBarBefore_74 : decode cX0_isBarBefore 74 = .ok (.iconst 1, 1) := by decide +kernel
theorem dX0_isBarBefore_75 : decode cX0_isBarBefore 75 = .ok (.isub, 1) := by decide +kernel
theorem dX0_isBarBefore_76 : decode cX0_isBarBefore 76 = .ok (.iaload, 1) := by decide +kernel
theorem dX0_isBarBefore_77 : decode cX0_isBarBefore 77 = .ok (.aload_n 0, 1) := by decide +kernel
theorem dX0_isBarBefore_78 : decode cX0_isBarBefore 78 = .ok (.getfield 28, 3) := by decide +kernel
theorem dX0_isBarBefore_81 : decode cX0_isBarBefore 81 = .ok (.iload_n 2, 1) := by decide +kernel
theorem dX0_isBarBefore_82 : decode cX0_isBarBefore 82 = .ok (.aaload, 1) := by decide +kernel
theorem dX0_isBarBefore_83 : decode cX0_isBarBefore 83 = .ok (.iload_n 3, 1) := by decide +kernel
theorem dX0_isBarBefore_84 : decode cX0_isBarBefore 84 = .ok (.iconst 1, 1) := by decide +kernel
theorem dX0_isBarBefore_85 : decode cX0_isBarBefore 85 = .ok (.isub, 1) := by decide +kernel
theorem dX0_isBarBefore_86 : decode cX0_isBarBefore 86 = .ok (.iaload, 1) := by decide +kernel
theorem dX0_isBarBefore_87 : decode cX0_isBarBefore 87 = .ok (.if_icmp .ge 7, 3) := by decide +kernel
theorem dX0_isBarBefore_90 : decode cX0_isBarBefore 90 = .ok (.iconst 1, 1) := by decide +kernel
theorem dX0_isBarBefore_91 : decode cX0_isBarBefore 91 = .ok (.goto 4, 3) := by decide +kernel
theorem dX0_isBarBefore_94 : decode cX0_isBarBefore 94 = .ok (.iconst 0, 1) := by decide +kernel
theorem dX0_isBarBefore_95 : decode cX0_isBarBefore 95 = .ok (.ireturn, 1) := by decide +kernel
theorem dX0_isBarBefore_96 : decode cX0_isBarBefore 96 = .ok (.aload_n 0, 1) := by decide +kernel
theorem dX0_isBarBefore_97 : decode cX0_isBarBefore 97 = .ok (.getfield 12, 3) := by decide +kernel
theorem dX0_isBarBefore_100 : decode cX0_isBarBefore 100 = .ok (.getfield 93, 3) := by decide +kernel
theorem dX0_isBarBefore_103 : decode cX0_isBarBefore 103 = .ok (.iload_n 1, 1) := by decide +kernel
theorem dX0_isBarBefore_104 : decode cX0_isBarBefore 104 = .ok (.iaload, 1) := by decide +kernel
theorem dX0_isBarBefore_105 : decode cX0_isBarBefore 105 = .ok (.aload_n 0, 1) := by decide +kernel
theorem dX0_isBarBefore_106 : decode cX0_isBarBefore 106 = .ok (.getfield 12, 3) := by decide +kernel
theorem dX0_isBarBefore_109 : decode cX0_isBarBefore 109 = .ok (.getfield 93, 3) := by decide +kernel
theorem dX0_isBarBefore_112 : decode cX0_isBarBefore 112 = .ok (.iload_n 2, 1) := by decide +kernel
theorem dX0_isBarBefore_113 : decode cX0_isBarBefore 113 = .ok (.iaload, 1) := by decide +kernel
theorem dX0_isBarBefore_114 : decode cX0_isBarBefore 114 = .ok (.if_icmp .eq 30, 3) := by decide +kernel
theorem dX0_isBarBefore_117 : decode cX0_isBarBefore 117 = .ok (.aload_n 0, 1) := by decide +kernel
theorem dX0_isBarBefore_118 : decode cX0_isBarBefore 118 = .ok (.getfield 12, 3) := by decide +kernel
theorem dX0_isBarBefore_121 : decode cX0_isBarBefore 121 = .ok (.getfield 93, 3) := by decide +kernel
theorem dX0_isBarBefore_124 : decode cX0_isBarBefore 124 = .ok (.iload_n 1, 1) := by decide +kernel
theorem dX0_isBarBefore_125 : decode cX0_isBarBefore 125 = .ok (.iaload, 1) := by decide +kernel
theorem dX0_isBarBefore_126 : decode cX0_isBarBefore 126 = .ok (.aload_n 0, 1) := by decide +kernel
theorem dX0_isBarBefore_127 : decode cX0_isBarBefore 127 = .ok (.getfield 12, 3) := by decide +kernel
theorem dX0_isBarBefore_130 : decode cX0_isBarBefore 130 = .ok (.getfield 93, 3) := by decide +kernel
theorem dX0_isBarBefore_133 : decode cX0_isBarBefore 133 = .ok (.iload_n 2, 1) := by decide +kernel
theorem dX0_isBarBefore_134 : decode cX0_isBarBefore 134 = .ok (.iaload, 1) := by decide +kernel
theorem dX0_isBarBefore_135 : decode cX0_isBarBefore 135 = .ok (.if_icmp .ge 7, 3) := by decide +kernel
theorem dX0_isBarBefore_138 : decode cX0_isBarBefore 138 = .ok (.iconst 1, 1) := by decide +kernel
theorem dX0_isBarBefore_139 : decode cX0_isBarBefore 139 = .ok (.goto 4, 3) := by decide +kernel
theorem dX0_isBarBefore_142 : decode cX0_isBarBefore 142 = .ok (.iconst 0, 1) := by decide +kernel
theorem dX0_isBarBefore_143 : decode cX0_isBarBefore 143 = .ok (.ireturn, 1) := by decide +kernel
theorem dX0_isBarBefore_144 : decode cX0_isBarBefore 144 = .ok (.aload_n 0, 1) := by decide +kernel
theorem dX0_isBarBefore_145 : decode cX0_isBarBefore 145 = .ok (.getfield 12, 3) := by decide +kernel
theorem dX0_isBarBefore_148 : decode cX0_isBarBefore 148 = .ok (.getfield 96, 3) := by decide +kernel
theorem dX0_isBarBefore_151 : decode cX0_isBarBefore 151 = .ok (.iload_n 1, 1) := by decide +kernel
theorem dX0_isBarBefore_152 : decode cX0_isBarBefore 152 = .ok (.iaload, 1) := by decide +kernel
theorem dX0_isBarBefore_153 : decode cX0_isBarBefore 153 = .ok (.aload_n 0, 1) := by decide +kernel
theorem dX0_isBarBefore_154 : decode cX0_isBarBefore 154 = .ok (.getfield 12, 3) := by decide +kernel
theorem dX0_isBarBefore_157 : decode cX0_isBarBefore 157 = .ok (.getfield 96, 3) := by decide +kernel
theorem dX0_isBarBefore_160 : decode cX0_isBarBefore 160 = .ok (.iload_n 2, 1) := by decide +kernel
theorem dX0_isBarBefore_161 : decode cX0_isBarBefore 161 = .ok (.iaload, 1) := by decide +kernel
theorem dX0_isBarBefore_162 : decode cX0_isBarBefore 162 = .ok (.if_icmp .eq 30, 3) := by decide +kernel
theorem dX0_isBarBefore_165 : decode cX0_isBarBefore 165 = .ok (.aload_n 0, 1) := by decide +kernel
theorem dX0_isBarBefore_166 : decode cX0_isBarBefore 166 = .ok (.getfield 12, 3) := by decide +kernel
theorem dX0_isBarBefore_169 : decode cX0_isBarBefore 169 = .ok (.getfield 96, 3) := by decide +kernel
theorem dX0_isBarBefore_172 : decode cX0_isBarBefore 172 = .ok (.iload_n 1, 1) := by decide +kernel
theorem dX0_isBarBefore_173 : decode cX0_isBarBefore 173 = .ok (.iaload, 1) := by decide +kernel
theorem dX0_isBarBefore_174 : decode cX0_isBarBefore 174 = .ok (.aload_n 0, 1) := by decide +kernel
theorem dX0_isBarBefore_175 : decode cX0_isBarBefore 175 = .ok (.getfield 12, 3) := by decide +kernel
theorem dX0_isBarBefore_178 : decode cX0_isBarBefore 178 = .ok (.getfield 96, 3) := by decide +kernel
theorem dX0_isBarBefore_181 : decode cX0_isBarBefore 181 = .ok (.iload_n 2, 1) := by decide +kernel
theorem dX0_isBarBefore_182 : decode cX0_isBarBefore 182 = .ok (.iaload, 1) := by decide +kernel
theorem dX0_isBarBefore_183 : decode cX0_isBarBefore 183 = .ok (.if_icmp .le 7, 3) := by decide +kernel
theorem dX0_isBarBefore_186 : decode cX0_isBarBefore 186 = .ok (.iconst 1, 1) := by decide +kernel
theorem dX0_isBarBefore_187 : decode cX0_isBarBefore 187 = .ok (.goto 4, 3) := by decide +kernel
theorem dX0_isBarBefore_190 : decode cX0_isBarBefore 190 = .ok (.iconst 0, 1) := by decide +kernel
theorem dX0_isBarBefore_191 : decode cX0_isBarBefore 191 = .ok (.ireturn, 1) := by decide +kernel
theorem dX0_isBarBefore_192 : decode cX0_isBarBefore 192 = .ok (.aload_n 0, 1) := by decide +kernel
theorem dX0_isBarBefore_193 : decode cX0_isBarBefore 193 = .ok (.getfield 12, 3) := by decide +kernel
theorem dX0_isBarBefore_196 : decode cX0_isBarBefore 196 = .ok (.getfield 99, 3) := by decide +kernel
theorem dX0_isBarBefore_199 : decode cX0_isBarBefore 199 = .ok (.iload_n 1, 1) := by decide +kernel
theorem dX0_isBarBefore_200 : decode cX0_isBarBefore 200 = .ok (.iaload, 1) := by decide +kernel
theorem dX0_isBarBefore_201 : decode cX0_isBarBefore 201 = .ok (.aload_n 0, 1) := by decide +kernel
theorem dX0_isBarBefore_202 : decode cX0_isBarBefore 202 = .ok (.getfield 12, 3) := by decide +kernel
theorem dX0_isBarBefore_205 : decode cX0_isBarBefore 205 = .ok (.getfield 99, 3) := by decide +kernel
theorem dX0_isBarBefore_208 : decode cX0_isBarBefore 208 = .ok (.iload_n 2, 1) := by decide +kernel
theorem dX0_isBarBefore_209 : decode cX0_isBarBefore 209 = .ok (.iaload, 1) := by decide +kernel
theorem dX0_isBarBefore_210 : decode cX0_isBarBefore 210 = .ok (.if_icmp .le 7, 3) := by decide +kernel
theorem dX0_isBarBefore_213 : decode cX0_isBarBefore 213 = .ok (.iconst 1, 1) := by decide +kernel
theorem dX0_isBarBefore_214 : decode cX0_isBarBefore 214 = .ok (.goto 4, 3) := by decide +kernel
theorem dX0_isBarBefore_217 : decode cX0_isBarBefore 217 = .ok (.iconst 0, 1) := by decide +kernel
theorem dX0_isBarBefore_218 : decode cX0_isBarBefore 218 = .ok (.ireturn, 1) := by decide +kernel
theorem dX0_layBar_0 : decode cX0_layBar 0 = .ok (.aload_n 0, 1) := by decide +kernel
theorem dX0_layBar_1 : decode cX0_layBar 1 = .ok (.getfield 12, 3) := by decide +kernel
theorem dX0_layBar_4 : decode cX0_layBar 4 = .ok (.getfield 93, 3) := by decide +kernel
theorem dX0_layBar_7 : decode cX0_layBar 7 = .ok (.iload_n 1, 1) := by decide +kernel
theorem dX0_layBar_8 : decode cX0_layBar 8 = .ok (.iaload, 1) := by decide +kernel
theorem dX0_layBar_9 : decode cX0_layBar 9 = .ok (.aload_n 0, 1) := by decide +kernel
theorem dX0_layBar_10 : decode cX0_layBar 10 = .ok (.iload_n 2, 1) := by decide +kernel
theorem dX0_layBar_11 : decode cX0_layBar 11 = .ok (.invokevirtual 79, 3) := by decide +kernel
theorem dX0_layBar_14 : decode cX0_layBar 14 = .ok (.invokestatic 102, 3) := by decide +kernel
theorem dX0_layBar_17 : decode cX0_layBar 17 = .ok (.aload_n 0, 1) := by decide +kernel
theorem dX0_layBar_18 : decode cX0_layBar 18 = .ok (.getfield 12, 3) := by decide +kernel
theorem dX0_layBar_21 : decode cX0_layBar 21 = .ok (.getfield 63, 3) := by decide +kernel
theorem dX0_layBar_24 : decode cX0_layBar 24 = .ok (.isub, 1) := by decide +kernel
theorem dX0_layBar_25 : decode cX0_layBar 25 = .ok (.istore_n 3, 1) := by decide +kernel
theorem dX0_layBar_26 : decode cX0_layBar 26 = .ok (.aload_n 0, 1) := by decide +kernel
theorem dX0_layBar_27 : decode cX0_layBar 27 = .ok (.getfield 12, 3) := by decide +kernel
theorem dX0_layBar_30 : decode cX0_layBar 30 = .ok (.getfield 96, 3) := by decide +kernel
theorem dX0_layBar_33 : decode cX0_layBar 33 = .ok (.iload_n 1, 1) := by decide +kernel
theorem dX0_layBar_34 : decode cX0_layBar 34 = .ok (.iaload, 1) := by decide +kernel
theorem dX0_layBar_35 : decode cX0_layBar 35 = .ok (.aload_n 0, 1) := by decide +kernel
theorem dX0_layBar_36 : decode cX0_layBar 36 = .ok (.iload_n 2, 1) := by decide +kernel
theorem dX0_layBar_37 : decode cX0_layBar 37 = .ok (.invokevirtual 83, 3) := by decide +kernel
theorem dX0_layBar_40 : decode cX0_layBar 40 = .ok (.invokestatic 108, 3) := by decide +kernel
theorem dX0_layBar_43 : decode cX0_layBar 43 = .ok (.aload_n 0, 1) := by decide +kernel
theorem dX0_layBar_44 : decode cX0_layBar 44 = .ok (.getfield 12, 3) := by decide +kernel
theorem dX0_layBar_47 : decode cX0_layBar 47 = .ok (.getfield 63, 3) := by decide +kernel
theorem dX0_layBar_50 : decode cX0_layBar 50 = .ok (.isub, 1) := by decide +kernel
theorem dX0_layBar_51 : decode cX0_layBar 51 = .ok (.istore 4, 2) := by decide +kernel
theorem dX0_layBar_53 : decode cX0_layBar 53 = .ok (.iconst 0, 1) := by decide +kernel
theorem dX0_layBar_54 : decode cX0_layBar 54 = .ok (.istore 5, 2) := by decide +kernel
theorem dX0_layBar_56 : decode cX0_layBar 56 = .ok (.iload_n 3, 1) := by decide +kernel
theorem dX0_layBar_57 : decode cX0_layBar 57 = .ok (.istore 6, 2) := by decide +kernel
theorem dX0_layBar_59 : decode cX0_layBar 59 = .ok (.iload 6, 2) := by decide +kernel
theorem dX0_layBar_61 : decode cX0_layBar 61 = .ok (.iload 4, 2) := by decide +kernel
theorem dX0_layBar_63 : decode cX0_layBar 63 = .ok (.if_icmp .gt 21, 3) := by decide +kernel
theorem dX0_layBar_66 : decode cX0_layBar 66 = .ok (.iload 5, 2) := by decide +kernel
theorem dX0_layBar_68 : decode cX0_layBar 68 = .ok (.aload_n 0, 1) := by decide +kernel
theorem dX0_layBar_69 : decode cX0_layBar 69 = .ok (.getfield 34, 3) := by decide +kernel
theorem dX0_layBar_72 : decode cX0_layBar 72 = .ok (.iload 6, 2) := by decide +kernel
theorem dX0_layBar_74 : decode cX0_layBar 74 = .ok (.iaload, 1) := by decide +kernel
theorem dX0_layBar_75 : decode cX0_layBar 75 = .ok (.ior, 1) := by decide +kernel
theorem dX0_layBar_76 : decode cX0_layBar 76 = .ok (.istore 5, 2) := by decide +kernel
theorem dX0_layBar_78 : decode cX0_layBar 78 = .ok (.iinc 6 1, 3) := by decide +kernel
theorem dX0_layBar_81 : decode cX0_layBar 81 = .ok (.goto (-22), 3) := by decide +kernel
theorem dX0_layBar_84 : decode cX0_layBar 84 = .ok (.iload_n 2, 1) := by decide +kernel
theorem dX0_layBar_85 : decode cX0_layBar 85 = .ok (.ifCond .le 16, 3) := by decide +kernel
theorem dX0_layBar_88 : decode cX0_layBar 88 = .ok (.aload_n 0, 1) := by decide +kernel
theorem dX0_layBar_89 : decode cX0_layBar 89 = .ok (.getfield 28, 3) := by decide +kernel
theorem dX0_layBar_92 : decode cX0_layBar 92 = .ok (.iload_n 1, 1) := by decide +kernel
theorem dX0_layBar_93 : decode cX0_layBar 93 = .ok (.aaload, 1) := by decide +kernel
theorem dX0_layBar_94 : decode cX0_layBar 94 = .ok (.iload_n 2, 1) := by decide +kernel
theorem dX0_layBar_95 : decode cX0_layBar 95 = .ok (.iconst 1, 1) := by decide +kernel
theorem dX0_layBar_96 : decode cX0_layBar 96 = .ok (.isub, 1) := by decide +kernel
theorem dX0_layBar_97 : decode cX0_layBar 97 = .ok (.iaload, 1) := by decide +kernel
theorem dX0_layBar_98 : decode cX0_layBar 98 = .ok (.goto 5, 3) := by decide +kernel
theorem dX0_layBar_101 : decode cX0_layBar 101 = .ok (.bipush (-9), 2) := by decide +kernel
theorem dX0_layBar_103 : decode cX0_layBar 103 = .ok (.istore 6, 2) := by decide +kernel
theorem dX0_layBar_105 : decode cX0_layBar 105 = .ok (.iload 6, 2) := by decide +kernel
theorem dX0_layBar_107 : decode cX0_layBar 107 = .ok (.bipush (-9), 2) := by decide +kernel
theorem dX0_layBar_109 : decode cX0_layBar 109 = .ok (.if_icmp .eq 17, 3) := by decide +kernel
theorem dX0_layBar_112 : decode cX0_layBar 112 = .ok (.iload 5, 2) := by decide +kernel
theorem dX0_layBar_114 : decode cX0_layBar 114 = .ok (.iload 6, 2) := by decide +kernel
theorem dX0_layBar_116 : decode cX0_layBar 116 = .ok (.ishr, 1) := by decide +kernel
theorem dX0_layBar_117 : decode cX0_layBar 117 = .ok (.iconst 1, 1) := by decide +kernel
theorem dX0_layBar_118 : decode cX0_layBar 118 = .ok (.iand, 1) := by decide +kernel
theorem dX0_layBar_119 : decode cX0_layBar 119 = .ok (.ifCond .ne 7, 3) := by decide +kernel
theorem dX0_layBar_122 : decode cX0_layBar 122 = .ok (.iconst 1, 1) := by decide +kernel
theorem dX0_layBar_123 : decode cX0_layBar 123 = .ok (.goto 4, 3) := by decide +kernel
theorem dX0_layBar_126 : decode cX0_layBar 126 = .ok (.iconst 0, 1) := by decide +kernel
theorem dX0_layBar_127 : decode cX0_layBar 127 = .ok (.istore 7, 2) := by decide +kernel
theorem dX0_layBar_129 : decode cX0_layBar 129 = .ok (.iload 7, 2) := by decide +kernel
theorem dX0_layBar_131 : decode cX0_layBar 131 = .ok (.ifCond .eq 8, 3) := by decide +kernel
theorem dX0_layBar_134 : decode cX0_layBar 134 = .ok (.iload 6, 2) := by decide +kernel
theorem dX0_layBar_136 : decode cX0_layBar 136 = .ok (.goto 8, 3) := by decide +kernel
theorem dX0_layBar_139 : decode cX0_layBar 139 = .ok (.iload 5, 2) := by decide +kernel
theorem dX0_layBar_141 : decode cX0_layBar 141 = .ok (.invokestatic 111, 3) := by decide +kernel
theorem dX0_layBar_144 : decode cX0_layBar 144 = .ok (.istore 8, 2) := by decide +kernel
theorem dX0_layBar_146 : decode cX0_layBar 146 = .ok (.aload_n 0, 1) := by decide +kernel
theorem dX0_layBar_147 : decode cX0_layBar 147 = .ok (.getfield 28, 3) := by decide +kernel
theorem dX0_layBar_150 : decode cX0_layBar 150 = .ok (.iload_n 1, 1) := by decide +kernel
theorem dX0_layBar_151 : decode cX0_layBar 151 = .ok (.aaload, 1) := by decide +kernel
theorem dX0_layBar_152 : decode cX0_layBar 152 = .ok (.iload_n 2, 1) := by decide +kernel
theorem dX0_layBar_153 : decode cX0_layBar 153 = .ok (.iload 8, 2) := by decide +kernel
theorem dX0_layBar_155 : decode cX0_layBar 155 = .ok (.iastore, 1) := by decide +kernel
theorem dX0_layBar_156 : decode cX0_layBar 156 = .ok (.iload_n 3, 1) := by decide +kernel
theorem dX0_layBar_157 : decode cX0_layBar 157 = .ok (.istore 9, 2) := by decide +kernel
theorem dX0_layBar_159 : decode cX0_layBar 159 = .ok (.iload 9, 2) := by decide +kernel
theorem dX0_layBar_161 : decode cX0_layBar 161 = .ok (.iload 4, 2) := by decide +kernel
theorem dX0_layBar_163 : decode cX0_layBar 163 = .ok (.if_icmp .gt 23, 3) := by decide +kernel
theorem dX0_layBar_166 : decode cX0_layBar 166 = .ok (.aload_n 0, 1) := by decide +kernel
theorem dX0_layBar_167 : decode cX0_layBar 167 = .ok (.getfield 34, 3) := by decide +kernel
theorem dX0_layBar_170 : decode cX0_layBar 170 = .ok (.iload 9, 2) := by decide +kernel
theorem dX0_layBar_172 : decode cX0_layBar 172 = .ok (.dup2, 1) := by decide +kernel
theorem dX0_layBar_173 : decode cX0_layBar 173 = .ok (.iaload, 1) := by decide +kernel
theorem dX0_layBar_174 : decode cX0_layBar 174 = .ok (.iconst 1, 1) := by decide +kernel
theorem dX0_layBar_175 : decode cX0_layBar 175 = .ok (.iload 8, 2) := by decide +kernel
theorem dX0_layBar_177 : decode cX0_layBar 177 = .ok (.ishl, 1) := by decide +kernel
theorem dX0_layBar_178 : decode cX0_layBar 178 = .ok (.ior, 1) := by decide +kernel
theorem dX0_layBar_179 : decode cX0_layBar 179 = .ok (.iastore, 1) := by decide +kernel
theorem dX0_layBar_180 : decode cX0_layBar 180 = .ok (.iinc 9 1, 3) := by decide +kernel
theorem dX0_layBar_183 : decode cX0_layBar 183 = .ok (.goto (-24), 3) := by decide +kernel
theorem dX0_layBar_186 : decode cX0_layBar 186 = .ok (.return_, 1) := by decide +kernel
theorem dX0_orderShortOnes_0 : decode cX0_orderShortOnes 0 = .ok (.aload_n 0, 1) := by decide +kernel
theorem dX0_orderShortOnes_1 : decode cX0_orderShortOnes 1 = .ok (.iconst 0, 1) := by decide +kernel
theorem dX0_orderShortOnes_2 : decode cX0_orderShortOnes 2 = .ok (.putfield 40, 3) := by decide +kernel
theorem dX0_orderShortOnes_5 : decode cX0_orderShortOnes 5 = .ok (.iconst 0, 1) := by decide +kernel
theorem dX0_orderShortOnes_6 : decode cX0_orderShortOnes 6 = .ok (.istore_n 1, 1) := by decide +kernel
theorem dX0_orderShortOnes_7 : decode cX0_orderShortOnes 7 = .ok (.iload_n 1, 1) := by decide +kernel
theorem dX0_orderShortOnes_8 : decode cX0_orderShortOnes 8 = .ok (.aload_n 0, 1) := by decide +kernel
theorem dX0_orderShortOnes_9 : decode cX0_orderShortOnes 9 = .ok (.getfield 12, 3) := by decide +kernel
theorem dX0_orderShortOnes_12 : decode cX0_orderShortOnes 12 = .ok (.getfield 72, 3) := by decide +kernel
theorem dX0_orderShortOnes_15 : decode cX0_orderShortOnes 15 = .ok (.if_icmp .ge 107, 3) := by decide +kernel
theorem dX0_orderShortOnes_18 : decode cX0_orderShortOnes 18 = .ok (.aload_n 0, 1) := by decide +kernel
theorem dX0_orderShortOnes_19 : decode cX0_orderShortOnes 19 = .ok (.getfield 12, 3) := by decide +kernel
theorem dX0_orderShortOnes_22 : decode cX0_orderShortOnes 22 = .ok (.iload_n 1, 1) := by decide +kernel
theorem dX0_orderShortOnes_23 : decode cX0_orderShortOnes 23 = .ok (.invokevirtual 75, 3) := by decide +kernel
theorem dX0_orderShortOnes_26 : decode cX0_orderShortOnes 26 = .ok (.ifCond .ne 90, 3) := by decide +kernel
theorem dX0_orderShortOnes_29 : decode cX0_orderShortOnes 29 = .ok (.aload_n 0, 1) := by decide +kernel
theorem dX0_orderShortOnes_30 : decode cX0_orderShortOnes 30 = .ok (.getfield 12, 3) := by decide +kernel
theorem dX0_orderShortOnes_33 : decode cX0_orderShortOnes 33 = .ok (.iload_n 1, 1) := by decide +kernel
theorem dX0_orderShortOnes_34 : decode cX0_orderShortOnes 34 = .ok (.aload_n 0, 1) := by decide +kernel
theorem dX0_orderShortOnes_35 : decode cX0_orderShortOnes 35 = .ok (.getfield 12, 3) := by decide +kernel
theorem dX0_orderShortOnes_38 : decode cX0_orderShortOnes 38 = .ok (.getfield 63, 3) := by decide +kernel
theorem dX0_orderShortOnes_41 : decode cX0_orderShortOnes 41 = .ok (.aload_n 0, 1) := by decide +kernel
theorem dX0_orderShortOnes_42 : decode cX0_orderShortOnes 42 = .ok (.getfield 12, 3) := by decide +kernel
theorem dX0_orderShortOnes_45 : decode cX0_orderShortOnes 45 = .ok (.getfield 66, 3) := by decide +kernel
theorem dX0_orderShortOnes_48 : decode cX0_orderShortOnes 48 = .ok (.invokevirtual 86, 3) := by decide +kernel
theorem dX0_orderShortOnes_51 : decode cX0_orderShortOnes 51 = .ok (.ifCond .eq 65, 3) := by decide +kernel
theorem dX0_orderShortOnes_54 : decode cX0_orderShortOnes 54 = .ok (.aload_n 0, 1) := by decide +kernel
theorem dX0_orderShortOnes_55 : decode cX0_orderShortOnes 55 = .ok (.getfield 40, 3) := by decide +kernel
theorem dX0_orderShortOnes_58 : decode cX0_orderShortOnes 58 = .ok (.istore_n 2, 1) := by decide +kernel
theorem dX0_orderShortOnes_59 : decode cX0_orderShortOnes 59 = .ok (.iload_n 2, 1) := by decide +kernel
theorem dX0_orderShortOnes_60 : decode cX0_orderShortOnes 60 = .ok (.ifCond .le 39, 3) := by decide +kernel
theorem dX0_orderShortOnes_63 : decode cX0_orderShortOnes 63 = .ok (.aload_n 0, 1) := by decide +kernel
theorem dX0_orderShortOnes_64 : decode cX0_orderShortOnes 64 = .ok (.iload_n 1, 1) := by decide +kernel
theorem dX0_orderShortOnes_65 : decode cX0_orderShortOnes 65 = .ok (.aload_n 0, 1) := by decide +kernel
theorem dX0_orderShortOnes_66 : decode cX0_orderShortOnes 66 = .ok (.getfield 37, 3) := by decide +kernel
theorem dX0_orderShortOnes_69 : decode cX0_orderShortOnes 69 = .ok (.iload_n 2, 1) := by decide +kernel
theorem dX0_orderShortOnes_70 : decode cX0_orderShortOnes 70 = .ok (.iconst 1, 1) := by decide +kernel
theorem dX0_orderShortOnes_71 : decode cX0_orderShortOnes 71 = .ok (.isub, 1) := by decide +kernel
theorem dX0_orderShortOnes_72 : decode cX0_orderShortOnes 72 = .ok (.iaload, 1) := by decide +kernel
theorem dX0_orderShortOnes_73 : decode cX0_orderShortOnes 73 = .ok (.invokevirtual 114, 3) := by decide +kernel
theorem dX0_orderShortOnes_76 : decode cX0_orderShortOnes 76 = .ok (.ifCond .eq 23, 3) := by decide +kernel
theorem dX0_orderShortOnes_79 : decode cX0_orderShortOnes 79 = .ok (.aload_n 0, 1) := by decide +kernel
theorem dX0_orderShortOnes_80 : decode cX0_orderShortOnes 80 = .ok (.getfield 37, 3) := by decide +kernel
theorem dX0_orderShortOnes_83 : decode cX0_orderShortOnes 83 = .ok (.iload_n 2, 1) := by decide +kernel
theorem dX0_orderShortOnes_84 : decode cX0_orderShortOnes 84 = .ok (.aload_n 0, 1) := by decide +kernel
theorem dX0_orderShortOnes_85 : decode cX0_orderShortOnes 85 = .ok (.getfield 37, 3) := by decide +kernel
theorem dX0_orderShortOnes_88 : decode cX0_orderShortOnes 88 = .ok (.iload_n 2, 1) := by decide +kernel
theorem dX0_orderShortOnes_89 : decode cX0_orderShortOnes 89 = .ok (.iconst 1, 1) := by decide +kernel
theorem dX0_orderShortOnes_90 : decode cX0_orderShortOnes 90 = .ok (.isub, 1) := by decide +kernel
theorem dX0_orderShortOnes_91 : decode cX0_orderShortOnes 91 = .ok (.iaload, 1) := by decide +kernel
theorem dX0_orderShortOnes_92 : decode cX0_orderShortOnes 92 = .ok (.iastore, 1) := by decide +kernel
theorem dX0_orderShortOnes_93 : decode cX0_orderShortOnes 93 = .ok (.iinc 2 (-1), 3) := by decide +kernel
theorem dX0_orderShortOnes_96 : decode cX0_orderShortOnes 96 = .ok (.goto (-37), 3) := by decide +kernel
theorem dX0_orderShortOnes_99 : decode cX0_orderShortOnes 99 = .ok (.aload_n 0, 1) := by decide +kernel
theorem dX0_orderShortOnes_100 : decode cX0_orderShortOnes 100 = .ok (.getfield 37, 3) := by decide +kernel
theorem dX0_orderShortOnes_103 : decode cX0_orderShortOnes 103 = .ok (.iload_n 2, 1) := by decide +kernel
theorem dX0_orderShortOnes_104 : decode cX0_orderShortOnes 104 = .ok (.iload_n 1, 1) := by decide +kernel
theorem dX0_orderShortOnes_105 : decode cX0_orderShortOnes 105 = .ok (.iastore, 1) := by decide +kernel
theorem dX0_orderShortOnes_106 : decode cX0_orderShortOnes 106 = .ok (.aload_n 0, 1) := by decide +kernel
theorem dX0_orderShortOnes_107 : decode cX0_orderShortOnes 107 = .ok (.dup, 1) := by decide +kernel
theorem dX0_orderShortOnes_108 : decode cX0_orderShortOnes 108 = .ok (.getfield 40, 3) := by decide +kernel
theorem dX0_orderShortOnes_111 : decode cX0_orderShortOnes 111 = .ok (.iconst 1, 1) := by decide +kernel
theorem dX0_orderShortOnes_112 : decode cX0_orderShortOnes 112 = .ok (.iadd, 1) := by decide +kernel
theorem dX0_orderShortOnes_113 : decode cX0_orderShortOnes 113 = .ok (.putfield 40, 3) := by decide +kernel
theorem dX0_orderShortOnes_116 : decode cX0_orderShortOnes 116 = .ok (.iinc 1 1, 3) := by decide +kernel
theorem dX0_orderShortOnes_119 : decode cX0_orderShortOnes 119 = .ok (.goto (-112), 3) := by decide +kernel
theorem dX0_orderShortOnes_122 : decode cX0_orderShortOnes 122 = .ok (.return_, 1) := by decide +kernel
theorem dX0_isStackedBefore_0 : decode cX0_isStackedBefore 0 = .ok (.aload_n 0, 1) := by decide +kernel
theorem dX0_isStackedBefore_1 : decode cX0_isStackedBefore 1 = .ok (.getfield 12, 3) := by decide +kernel
theorem dX0_isStackedBefore_4 : decode cX0_isStackedBefore 4 = .ok (.getfield 99, 3) := by decide +kernel
theorem dX0_isStackedBefore_7 : decode cX0_isStackedBefore 7 = .ok (.iload_n 1, 1) := by decide +kernel
theorem dX0_isStackedBefore_8 : decode cX0_isStackedBefore 8 = .ok (.iaload, 1) := by decide +kernel
theorem dX0_isStackedBefore_9 : decode cX0_isStackedBefore 9 = .ok (.aload_n 0, 1) := by decide +kernel
theorem dX0_isStackedBefore_10 : decode cX0_isStackedBefore 10 = .ok (.getfield 12, 3) := by decide +kernel
theorem dX0_isStackedBefore_13 : decode cX0_isStackedBefore 13 = .ok (.getfield 99, 3) := by decide +kernel
theorem dX0_isStackedBefore_16 : decode cX0_isStackedBefore 16 = .ok (.iload_n 2, 1) := by decide +kernel
theorem dX0_isStackedBefore_17 : decode cX0_isStackedBefore 17 = .ok (.iaload, 1) := by decide +kernel
theorem dX0_isStackedBefore_18 : decode cX0_isStackedBefore 18 = .ok (.if_icmp .eq 30, 3) := by decide +kernel
theorem dX0_isStackedBefore_21 : decode cX0_isStackedBefore 21 = .ok (.aload_n 0, 1) := by decide +kernel
theorem dX0_isStackedBefore_22 : decode cX0_isStackedBefore 22 = .ok (.getfield 12, 3) := by decide +kernel
theorem dX0_isStackedBefore_25 : decode cX0_isStackedBefore 25 = .ok (.getfield 99, 3) := by decide +kernel
theorem dX0_isStackedBefore_28 : decode cX0_isStackedBefore 28 = .ok (.iload_n 1, 1) := by decide +kernel
theorem dX0_isStackedBefore_29 : decode cX0_isStackedBefore 29 = .ok (.iaload, 1) := by decide +kernel
theorem dX0_isStackedBefore_30 : decode cX0_isStackedBefore 30 = .ok (.aload_n 0, 1) := by decide +kernel
theorem dX0_isStackedBefore_31 : decode cX0_isStackedBefore 31 = .ok (.getfield 12, 3) := by decide +kernel
theorem dX0_isStackedBefore_34 : decode cX0_isStackedBefore 34 = .ok (.getfield 99, 3) := by decide +kernel
theorem dX0_isStackedBefore_37 : decode cX0_isStackedBefore 37 = .ok (.iload_n 2, 1) := by decide +kernel
theorem dX0_isStackedBefore_38 : decode cX0_isStackedBefore 38 = .ok (.iaload, 1) := by decide +kernel
theorem dX0_isStackedBefore_39 : decode cX0_isStackedBefore 39 = .ok (.if_icmp .le 7, 3) := by decide +kernel
theorem dX0_isStackedBefore_42 : decode cX0_isStackedBefore 42 = .ok (.iconst 1, 1) := by decide +kernel
theorem dX0_isStackedBefore_43 : decode cX0_isStackedBefore 43 = .ok (.goto 4, 3) := by decide +kernel
theorem dX0_isStackedBefore_46 : decode cX0_isStackedBefore 46 = .ok (.iconst 0, 1) := by decide +kernel
theorem dX0_isStackedBefore_47 : decode cX0_isStackedBefore 47 = .ok (.ireturn, 1) := by decide +kernel
theorem dX0_isStackedBefore_48 : decode cX0_isStackedBefore 48 = .ok (.aload_n 0, 1) := by decide +kernel
theorem dX0_isStackedBefore_49 : decode cX0_isStackedBefore 49 = .ok (.getfield 12, 3) := by decide +kernel
theorem dX0_isStackedBefore_52 : decode cX0_isStackedBefore 52 = .ok (.getfield 118, 3) := by decide +kernel
theorem dX0_isStackedBefore_55 : decode cX0_isStackedBefore 55 = .ok (.iload_n 1, 1) := by decide +kernel
theorem dX0_isStackedBefore_56 : decode cX0_isStackedBefore 56 = .ok (.iaload, 1) := by decide +kernel
theorem dX0_isStackedBefore_57 : decode cX0_isStackedBefore 57 = .ok (.aload_n 0, 1) := by decide +kernel
theorem dX0_isStackedBefore_58 : decode cX0_isStackedBefore 58 = .ok (.getfield 12, 3) := by decide +kernel
theorem dX0_isStackedBefore_61 : decode cX0_isStackedBefore 61 = .ok (.getfield 118, 3) := by decide +kernel
theorem dX0_isStackedBefore_64 : decode cX0_isStackedBefore 64 = .ok (.iload_n 2, 1) := by decide +kernel
theorem dX0_isStackedBefore_65 : decode cX0_isStackedBefore 65 = .ok (.iaload, 1) := by decide +kernel
theorem dX0_isStackedBefore_66 : decode cX0_isStackedBefore 66 = .ok (.if_icmp .ge 7, 3) := by decide +kernel
theorem dX0_isStackedBefore_69 : decode cX0_isStackedBefore 69 = .ok (.iconst 1, 1) := by decide +kernel
theorem dX0_isStackedBefore_70 : decode cX0_isStackedBefore 70 = .ok (.goto 4, 3) := by decide +kernel
theorem dX0_isStackedBefore_73 : decode cX0_isStackedBefore 73 = .ok (.iconst 0, 1) := by decide +kernel
theorem dX0_isStackedBefore_74 : decode cX0_isStackedBefore 74 = .ok (.ireturn, 1) := by decide +kernel
theorem dX0_stack_0 : decode cX0_stack 0 = .ok (.aload_n 0, 1) := by decide +kernel
theorem dX0_stack_1 : decode cX0_stack 1 = .ok (.getfield 12, 3) := by decide +kernel
theorem dX0_stack_4 : decode cX0_stack 4 = .ok (.getfield 93, 3) := by decide +kernel
theorem dX0_stack_7 : decode cX0_stack 7 = .ok (.iload_n 1, 1) := by decide +kernel
theorem dX0_stack_8 : decode cX0_stack 8 = .ok (.iaload, 1) := by decide +kernel
theorem dX0_stack_9 : decode cX0_stack 9 = .ok (.aload_n 0, 1) := by decide +kernel
theorem dX0_stack_10 : decode cX0_stack 10 = .ok (.getfield 12, 3) := by decide +kernel
theorem dX0_stack_13 : decode cX0_stack 13 = .ok (.getfield 63, 3) := by decide +kernel
theorem dX0_stack_16 : decode cX0_stack 16 = .ok (.isub, 1) := by decide +kernel
theorem dX0_stack_17 : decode cX0_stack 17 = .ok (.istore_n 2, 1) := by decide +kernel
theorem dX0_stack_18 : decode cX0_stack 18 = .ok (.aload_n 0, 1) := by decide +kernel
theorem dX0_stack_19 : decode cX0_stack 19 = .ok (.getfield 34, 3) := by decide +kernel
theorem dX0_stack_22 : decode cX0_stack 22 = .ok (.iload_n 2, 1) := by decide +kernel
theorem dX0_stack_23 : decode cX0_stack 23 = .ok (.iaload, 1) := by decide +kernel
theorem dX0_stack_24 : decode cX0_stack 24 = .ok (.invokestatic 111, 3) := by decide +kernel
theorem dX0_stack_27 : decode cX0_stack 27 = .ok (.istore_n 3, 1) := by decide +kernel
theorem dX0_stack_28 : decode cX0_stack 28 = .ok (.aload_n 0, 1) := by decide +kernel
theorem dX0_stack_29 : decode cX0_stack 29 = .ok (.getfield 31, 3) := by decide +kernel
theorem dX0_stack_32 : decode cX0_stack 32 = .ok (.iload_n 1, 1) := by decide +kernel
theorem dX0_stack_33 : decode cX0_stack 33 = .ok (.iload_n 3, 1) := by decide +kernel
theorem dX0_stack_34 : decode cX0_stack 34 = .ok (.iastore, 1) := by decide +kernel
theorem dX0_stack_35 : decode cX0_stack 35 = .ok (.aload_n 0, 1) := by decide +kernel
theorem dX0_stack_36 : decode cX0_stack 36 = .ok (.getfield 34, 3) := by decide +kernel
theorem dX0_stack_39 : decode cX0_stack 39 = .ok (.iload_n 2, 1) := by decide +kernel
theorem dX0_stack_40 : decode cX0_stack 40 = .ok (.dup2, 1) := by decide +kernel
theorem dX0_stack_41 : decode cX0_stack 41 = .ok (.iaload, 1) := by decide +kernel
theorem dX0_stack_42 : decode cX0_stack 42 = .ok (.iconst 1, 1) := by decide +kernel
theorem dX0_stack_43 : decode cX0_stack 43 = .ok (.iload_n 3, 1) := by decide +kernel
theorem dX0_stack_44 : decode cX0_stack 44 = .ok (.ishl, 1) := by decide +kernel
theorem dX0_stack_45 : decode cX0_stack 45 = .ok (.ior, 1) := by decide +kernel
theorem dX0_stack_46 : decode cX0_stack 46 = .ok (.iastore, 1) := by decide +kernel
theorem dX0_stack_47 : decode cX0_stack 47 = .ok (.return_, 1) := by decide +kernel
theorem dX0_smallestFree_0 : decode cX0_smallestFree 0 = .ok (.iconst 0, 1) := by decide +kernel
theorem dX0_smallestFree_1 : decode cX0_smallestFree 1 = .ok (.istore_n 1, 1) := by decide +kernel
theorem dX0_smallestFree_2 : decode cX0_smallestFree 2 = .ok (.iload_n 1, 1) := by decide +kernel
theorem dX0_smallestFree_3 : decode cX0_smallestFree 3 = .ok (.bipush 24, 2) := by decide +kernel
theorem dX0_smallestFree_5 : decode cX0_smallestFree 5 = .ok (.if_icmp .ge 17, 3) := by decide +kernel
theorem dX0_smallestFree_8 : decode cX0_smallestFree 8 = .ok (.iload_n 0, 1) := by decide +kernel
theorem dX0_smallestFree_9 : decode cX0_smallestFree 9 = .ok (.iload_n 1, 1) := by decide +kernel
theorem dX0_smallestFree_10 : decode cX0_smallestFree 10 = .ok (.ishr, 1) := by decide +kernel
theorem dX0_smallestFree_11 : decode cX0_smallestFree 11 = .ok (.iconst 1, 1) := by decide +kernel
theorem dX0_smallestFree_12 : decode cX0_smallestFree 12 = .ok (.iand, 1) := by decide +kernel
theorem dX0_smallestFree_13 : decode cX0_smallestFree 13 = .ok (.ifCond .eq 9, 3) := by decide +kernel
theorem dX0_smallestFree_16 : decode cX0_smallestFree 16 = .ok (.iinc 1 1, 3) := by decide +kernel
theorem dX0_smallestFree_19 : decode cX0_smallestFree 19 = .ok (.goto (-17), 3) := by decide +kernel
theorem dX0_smallestFree_22 : decode cX0_smallestFree 22 = .ok (.iload_n 1, 1) := by decide +kernel
theorem dX0_smallestFree_23 : decode cX0_smallestFree 23 = .ok (.ireturn, 1) := by decide +kernel
theorem dX0_firstOfWeek_0 : decode cX0_firstOfWeek 0 = .ok (.aload_n 0, 1) := by decide +kernel
theorem dX0_firstOfWeek_1 : decode cX0_firstOfWeek 1 = .ok (.getfield 22, 3) := by decide +kernel
theorem dX0_firstOfWeek_4 : decode cX0_firstOfWeek 4 = .ok (.iload_n 1, 1) := by decide +kernel
theorem dX0_firstOfWeek_5 : decode cX0_firstOfWeek 5 = .ok (.iaload, 1) := by decide +kernel
theorem dX0_firstOfWeek_6 : decode cX0_firstOfWeek 6 = .ok (.ireturn, 1) := by decide +kernel
theorem dX0_lastOfWeek_0 : decode cX0_lastOfWeek 0 = .ok (.aload_n 0, 1) := by decide +kernel
theorem dX0_lastOfWeek_1 : decode cX0_lastOfWeek 1 = .ok (.getfield 22, 3) := by decide +kernel
theorem dX0_lastOfWeek_4 : decode cX0_lastOfWeek 4 = .ok (.iload_n 1, 1) := by decide +kernel
theorem dX0_lastOfWeek_5 : decode cX0_lastOfWeek 5 = .ok (.iconst 1, 1) := by decide +kernel
theorem dX0_lastOfWeek_6 : decode cX0_lastOfWeek 6 = .ok (.iadd, 1) := by decide +kernel
theorem dX0_lastOfWeek_7 : decode cX0_lastOfWeek 7 = .ok (.iaload, 1) := by decide +kernel
theorem dX0_lastOfWeek_8 : decode cX0_lastOfWeek 8 = .ok (.iconst 1, 1) := by decide +kernel
theorem dX0_lastOfWeek_9 : decode cX0_lastOfWeek 9 = .ok (.isub, 1) := by decide +kernel
theorem dX0_lastOfWeek_10 : decode cX0_lastOfWeek 10 = .ok (.ireturn, 1) := by decide +kernel
theorem dX0_weekOfDay_0 : decode cX0_weekOfDay 0 = .ok (.iconst 0, 1) := by decide +kernel
theorem dX0_weekOfDay_1 : decode cX0_weekOfDay 1 = .ok (.istore_n 2, 1) := by decide +kernel
theorem dX0_weekOfDay_2 : decode cX0_weekOfDay 2 = .ok (.iload_n 2, 1) := by decide +kernel
theorem dX0_weekOfDay_3 : decode cX0_weekOfDay 3 = .ok (.iconst 1, 1) := by decide +kernel
theorem dX0_weekOfDay_4 : decode cX0_weekOfDay 4 = .ok (.iadd, 1) := by decide +kernel
theorem dX0_weekOfDay_5 : decode cX0_weekOfDay 5 = .ok (.aload_n 0, 1) := by decide +kernel
theorem dX0_weekOfDay_6 : decode cX0_weekOfDay 6 = .ok (.getfield 18, 3) := by decide +kernel
theorem dX0_weekOfDay_9 : decode cX0_weekOfDay 9 = .ok (.if_icmp .ge 21, 3) := by decide +kernel
theorem dX0_weekOfDay_12 : decode cX0_weekOfDay 12 = .ok (.aload_n 0, 1) := by decide +kernel
theorem dX0_weekOfDay_13 : decode cX0_weekOfDay 13 = .ok (.getfield 22, 3) := by decide +kernel
theorem dX0_weekOfDay_16 : decode cX0_weekOfDay 16 = .ok (.iload_n 2, 1) := by decide +kernel
theorem dX0_weekOfDay_17 : decode cX0_weekOfDay 17 = .ok (.iconst 1, 1) := by decide +kernel
theorem dX0_weekOfDay_18 : decode cX0_weekOfDay 18 = .ok (.iadd, 1) := by decide +kernel
theorem dX0_weekOfDay_19 : decode cX0_weekOfDay 19 = .ok (.iaload, 1) := by decide +kernel
theorem dX0_weekOfDay_20 : decode cX0_weekOfDay 20 = .ok (.iload_n 1, 1) := by decide +kernel
theorem dX0_weekOfDay_21 : decode cX0_weekOfDay 21 = .ok (.if_icmp .gt 9, 3) := by decide +kernel
theorem dX0_weekOfDay_24 : decode cX0_weekOfDay 24 = .ok (.iinc 2 1, 3) := by decide +kernel
theorem dX0_weekOfDay_27 : decode cX0_weekOfDay 27 = .ok (.goto (-25), 3) := by decide +kernel
theorem dX0_weekOfDay_30 : decode cX0_weekOfDay 30 = .ok (.iload_n 2, 1) := by decide +kernel
theorem dX0_weekOfDay_31 : decode cX0_weekOfDay 31 = .ok (.ireturn, 1) := by decide +kernel
theorem dX0_barsInWeek_0 : decode cX0_barsInWeek 0 = .ok (.iconst 0, 1) := by decide +kernel
theorem dX0_barsInWeek_1 : decode cX0_barsInWeek 1 = .ok (.istore_n 2, 1) := by decide +kernel
theorem dX0_barsInWeek_2 : decode cX0_barsInWeek 2 = .ok (.iconst 0, 1) := by decide +kernel
theorem dX0_barsInWeek_3 : decode cX0_barsInWeek 3 = .ok (.istore_n 3, 1) := by decide +kernel
theorem dX0_barsInWeek_4 : decode cX0_barsInWeek 4 = .ok (.iload_n 3, 1) := by decide +kernel
theorem dX0_barsInWeek_5 : decode cX0_barsInWeek 5 = .ok (.aload_n 0, 1) := by decide +kernel
theorem dX0_barsInWeek_6 : decode cX0_barsInWeek 6 = .ok (.getfield 12, 3) := by decide +kernel
theorem dX0_barsInWeek_9 : decode cX0_barsInWeek 9 = .ok (.getfield 72, 3) := by decide +kernel
theorem dX0_barsInWeek_12 : decode cX0_barsInWeek 12 = .ok (.if_icmp .ge 25, 3) := by decide +kernel
theorem dX0_barsInWeek_15 : decode cX0_barsInWeek 15 = .ok (.aload_n 0, 1) := by decide +kernel
theorem dX0_barsInWeek_16 : decode cX0_barsInWeek 16 = .ok (.getfield 28, 3) := by decide +kernel
theorem dX0_barsInWeek_19 : decode cX0_barsInWeek 19 = .ok (.iload_n 3, 1) := by decide +kernel
theorem dX0_barsInWeek_20 : decode cX0_barsInWeek 20 = .ok (.aaload, 1) := by decide +kernel
theorem dX0_barsInWeek_21 : decode cX0_barsInWeek 21 = .ok (.iload_n 1, 1) := by decide +kernel
theorem dX0_barsInWeek_22 : decode cX0_barsInWeek 22 = .ok (.iaload, 1) := by decide +kernel
theorem dX0_barsInWeek_23 : decode cX0_barsInWeek 23 = .ok (.bipush (-9), 2) := by decide +kernel
theorem dX0_barsInWeek_25 : decode cX0_barsInWeek 25 = .ok (.if_icmp .eq 6, 3) := by decide +kernel
theorem dX0_barsInWeek_28 : decode cX0_barsInWeek 28 = .ok (.iinc 2 1, 3) := by decide +kernel
theorem dX0_barsInWeek_31 : decode cX0_barsInWeek 31 = .ok (.iinc 3 1, 3) := by decide +kernel
theorem dX0_barsInWeek_34 : decode cX0_barsInWeek 34 = .ok (.goto (-30), 3) := by decide +kernel
theorem dX0_barsInWeek_37 : decode cX0_barsInWeek 37 = .ok (.iload_n 2, 1) := by decide +kernel
theorem dX0_barsInWeek_38 : decode cX0_barsInWeek 38 = .ok (.ireturn, 1) := by decide +kernel
theorem dX0_lanesInWeek_0 : decode cX0_lanesInWeek 0 = .ok (.iconst 0, 1) := by decide +kernel
theorem dX0_lanesInWeek_1 : decode cX0_lanesInWeek 1 = .ok (.istore_n 2, 1) := by decide +kernel
theorem dX0_lanesInWeek_2 : decode cX0_lanesInWeek 2 = .ok (.iconst 0, 1) := by decide +kernel
theorem dX0_lanesInWeek_3 : decode cX0_lanesInWeek 3 = .ok (.istore_n 3, 1) := by decide +kernel
theorem dX0_lanesInWeek_4 : decode cX0_lanesInWeek 4 = .ok (.iload_n 3, 1) := by decide +kernel
theorem dX0_lanesInWeek_5 : decode cX0_lanesInWeek 5 = .ok (.aload_n 0, 1) := by decide +kernel
theorem dX0_lanesInWeek_6 : decode cX0_lanesInWeek 6 = .ok (.getfield 12, 3) := by decide +kernel
theorem dX0_lanesInWeek_9 : decode cX0_lanesInWeek 9 = .ok (.getfield 72, 3) := by decide +kernel
theorem dX0_lanesInWeek_12 : decode cX0_lanesInWeek 12 = .ok (.if_icmp .ge 24, 3) := by decide +kernel
theorem dX0_lanesInWeek_15 : decode cX0_lanesInWeek 15 = .ok (.iload_n 2, 1) := by decide +kernel
theorem dX0_lanesInWeek_16 : decode cX0_lanesInWeek 16 = .ok (.aload_n 0, 1) := by decide +kernel
theorem dX0_lanesInWeek_17 : decode cX0_lanesInWeek 17 = .ok (.getfield 28, 3) := by decide +kernel
theorem dX0_lanesInWeek_20 : decode cX0_lanesInWeek 20 = .ok (.iload_n 3, 1) := by decide +kernel
theorem dX0_lanesInWeek_21 : decode cX0_lanesInWeek 21 = .ok (.aaload, 1) := by decide +kernel
theorem dX0_lanesInWeek_22 : decode cX0_lanesInWeek 22 = .ok (.iload_n 1, 1) := by decide +kernel
theorem dX0_lanesInWeek_23 : decode cX0_lanesInWeek 23 = .ok (.iaload, 1) := by decide +kernel
theorem dX0_lanesInWeek_24 : decode cX0_lanesInWeek 24 = .ok (.iconst 1, 1) := by decide +kernel
theorem dX0_lanesInWeek_25 : decode cX0_lanesInWeek 25 = .ok (.iadd, 1) := by decide +kernel
theorem dX0_lanesInWeek_26 : decode cX0_lanesInWeek 26 = .ok (.invokestatic 102, 3) := by decide +kernel
theorem dX0_lanesInWeek_29 : decode cX0_lanesInWeek 29 = .ok (.istore_n 2, 1) := by decide +kernel
theorem dX0_lanesInWeek_30 : decode cX0_lanesInWeek 30 = .ok (.iinc 3 1, 3) := by decide +kernel
theorem dX0_lanesInWeek_33 : decode cX0_lanesInWeek 33 = .ok (.goto (-29), 3) := by decide +kernel
theorem dX0_lanesInWeek_36 : decode cX0_lanesInWeek 36 = .ok (.iload_n 2, 1) := by decide +kernel
theorem dX0_lanesInWeek_37 : decode cX0_lanesInWeek 37 = .ok (.ireturn, 1) := by decide +kernel
theorem dX0_barsOfEntry_0 : decode cX0_barsOfEntry 0 = .ok (.iconst 0, 1) := by decide +kernel
theorem dX0_barsOfEntry_1 : decode cX0_barsOfEntry 1 = .ok (.istore_n 2, 1) := by decide +kernel
theorem dX0_barsOfEntry_2 : decode cX0_barsOfEntry 2 = .ok (.iconst 0, 1) := by decide +kernel
theorem dX0_barsOfEntry_3 : decode cX0_barsOfEntry 3 = .ok (.istore_n 3, 1) := by decide +kernel
theorem dX0_barsOfEntry_4 : decode cX0_barsOfEntry 4 = .ok (.iload_n 3, 1) := by decide +kernel
theorem dX0_barsOfEntry_5 : decode cX0_barsOfEntry 5 = .ok (.aload_n 0, 1) := by decide +kernel
theorem dX0_barsOfEntry_6 : decode cX0_barsOfEntry 6 = .ok (.getfield 18, 3) := by decide +kernel
theorem dX0_barsOfEntry_9 : decode cX0_barsOfEntry 9 = .ok (.if_icmp .ge 25, 3) := by decide +kernel
theorem dX0_barsOfEntry_12 : decode cX0_barsOfEntry 12 = .ok (.aload_n 0, 1) := by decide +kernel
theorem dX0_barsOfEntry_13 : decode cX0_barsOfEntry 13 = .ok (.getfield 28, 3) := by decide +kernel
theorem dX0_barsOfEntry_16 : decode cX0_barsOfEntry 16 = .ok (.iload_n 1, 1) := by decide +kernel
theorem dX0_barsOfEntry_17 : decode cX0_barsOfEntry 17 = .ok (.aaload, 1) := by decide +kernel
theorem dX0_barsOfEntry_18 : decode cX0_barsOfEntry 18 = .ok (.iload_n 3, 1) := by decide +kernel
theorem dX0_barsOfEntry_19 : decode cX0_barsOfEntry 19 = .ok (.iaload, 1) := by decide +kernel
theorem dX0_barsOfEntry_20 : decode cX0_barsOfEntry 20 = .ok (.bipush (-9), 2) := by decide +kernel
theorem dX0_barsOfEntry_22 : decode cX0_barsOfEntry 22 = .ok (.if_icmp .eq 6, 3) := by decide +kernel
theorem dX0_barsOfEntry_25 : decode cX0_barsOfEntry 25 = .ok (.iinc 2 1, 3) := by decide +kernel
theorem dX0_barsOfEntry_28 : decode cX0_barsOfEntry 28 = .ok (.iinc 3 1, 3) := by decide +kernel
theorem dX0_barsOfEntry_31 : decode cX0_barsOfEntry 31 = .ok (.goto (-27), 3) := by decide +kernel
theorem dX0_barsOfEntry_34 : decode cX0_barsOfEntry 34 = .ok (.iload_n 2, 1) := by decide +kernel
theorem dX0_barsOfEntry_35 : decode cX0_barsOfEntry 35 = .ok (.ireturn, 1) := by decide +kernel
theorem dX0_barsOnPage_0 : decode cX0_barsOnPage 0 = .ok (.iconst 0, 1) := by decide +kernel
theorem dX0_barsOnPage_1 : decode cX0_barsOnPage 1 = .ok (.istore_n 1, 1) := by decide +kernel
theorem dX0_barsOnPage_2 : decode cX0_barsOnPage 2 = .ok (.iconst 0, 1) := by decide +kernel
theorem dX0_barsOnPage_3 : decode cX0_barsOnPage 3 = .ok (.istore_n 2, 1) := by decide +kernel
theorem dX0_barsOnPage_4 : decode cX0_barsOnPage 4 = .ok (.iload_n 2, 1) := by decide +kernel
theorem dX0_barsOnPage_5 : decode cX0_barsOnPage 5 = .ok (.aload_n 0, 1) := by decide +kernel
theorem dX0_barsOnPage_6 : decode cX0_barsOnPage 6 = .ok (.getfield 18, 3) := by decide +kernel
theorem dX0_barsOnPage_9 : decode cX0_barsOnPage 9 = .ok (.if_icmp .ge 17, 3) := by decide +kernel
theorem dX0_barsOnPage_12 : decode cX0_barsOnPage 12 = .ok (.iload_n 1, 1) := by decide +kernel
theorem dX0_barsOnPage_13 : decode cX0_barsOnPage 13 = .ok (.aload_n 0, 1) := by decide +kernel
theorem dX0_barsOnPage_14 : decode cX0_barsOnPage 14 = .ok (.iload_n 2, 1) := by decide +kernel
theorem dX0_barsOnPage_15 : decode cX0_barsOnPage 15 = .ok (.invokevirtual 121, 3) := by decide +kernel
theorem dX0_barsOnPage_18 : decode cX0_barsOnPage 18 = .ok (.iadd, 1) := by decide +kernel
theorem dX0_barsOnPage_19 : decode cX0_barsOnPage 19 = .ok (.istore_n 1, 1) := by decide +kernel
theorem dX0_barsOnPage_20 : decode cX0_barsOnPage 20 = .ok (.iinc 2 1, 3) := by decide +kernel
theorem dX0_barsOnPage_23 : decode cX0_barsOnPage 23 = .ok (.goto (-19), 3) := by decide +kernel
theorem dX0_barsOnPage_26 : decode cX0_barsOnPage 26 = .ok (.iload_n 1, 1) := by decide +kernel
theorem dX0_barsOnPage_27 : decode cX0_barsOnPage 27 = .ok (.ireturn, 1) := by decide +kernel
theorem dX0_rowOnDay_0 : decode cX0_rowOnDay 0 = .ok (.aload_n 0, 1) := by decide +kernel
theorem dX0_rowOnDay_1 : decode cX0_rowOnDay 1 = .ok (.getfield 12, 3) := by decide +kernel
theorem dX0_rowOnDay_4 : decode cX0_rowOnDay 4 = .ok (.iload_n 1, 1) := by decide +kernel
theorem dX0_rowOnDay_5 : decode cX0_rowOnDay 5 = .ok (.iload_n 2, 1) := by decide +kernel
theorem dX0_rowOnDay_6 : decode cX0_rowOnDay 6 = .ok (.iload_n 2, 1) := by decide +kernel
theorem dX0_rowOnDay_7 : decode cX0_rowOnDay 7 = .ok (.invokevirtual 86, 3) := by decide +kernel
theorem dX0_rowOnDay_10 : decode cX0_rowOnDay 10 = .ok (.ifCond .ne 6, 3) := by decide +kernel
theorem dX0_rowOnDay_13 : decode cX0_rowOnDay 13 = .ok (.bipush (-9), 2) := by decide +kernel
theorem dX0_rowOnDay_15 : decode cX0_rowOnDay 15 = .ok (.ireturn, 1) := by decide +kernel
theorem dX0_rowOnDay_16 : decode cX0_rowOnDay 16 = .ok (.aload_n 0, 1) := by decide +kernel
theorem dX0_rowOnDay_17 : decode cX0_rowOnDay 17 = .ok (.getfield 12, 3) := by decide +kernel
theorem dX0_rowOnDay_20 : decode cX0_rowOnDay 20 = .ok (.iload_n 1, 1) := by decide +kernel
theorem dX0_rowOnDay_21 : decode cX0_rowOnDay 21 = .ok (.invokevirtual 75, 3) := by decide +kernel
theorem dX0_rowOnDay_24 : decode cX0_rowOnDay 24 = .ok (.ifCond .eq 18, 3) := by decide +kernel
theorem dX0_rowOnDay_27 : decode cX0_rowOnDay 27 = .ok (.aload_n 0, 1) := by decide +kernel
theorem dX0_rowOnDay_28 : decode cX0_rowOnDay 28 = .ok (.getfield 28, 3) := by decide +kernel
theorem dX0_rowOnDay_31 : decode cX0_rowOnDay 31 = .ok (.iload_n 1, 1) := by decide +kernel
theorem dX0_rowOnDay_32 : decode cX0_rowOnDay 32 = .ok (.aaload, 1) := by decide +kernel
theorem dX0_rowOnDay_33 : decode cX0_rowOnDay 33 = .ok (.aload_n 0, 1) := by decide +kernel
theorem dX0_rowOnDay_34 : decode cX0_rowOnDay 34 = .ok (.iload_n 2, 1) := by decide +kernel
theorem dX0_rowOnDay_35 : decode cX0_rowOnDay 35 = .ok (.invokevirtual 124, 3) := by decide +kernel
theorem dX0_rowOnDay_38 : decode cX0_rowOnDay 38 = .ok (.iaload, 1) := by decide +kernel
theorem dX0_rowOnDay_39 : decode cX0_rowOnDay 39 = .ok (.goto 9, 3) := by decide +kernel
theorem dX0_rowOnDay_42 : decode cX0_rowOnDay 42 = .ok (.aload_n 0, 1) := by decide +kernel
theorem dX0_rowOnDay_43 : decode cX0_rowOnDay 43 = .ok (.getfield 31, 3) := by decide +kernel
theorem dX0_rowOnDay_46 : decode cX0_rowOnDay 46 = .ok (.iload_n 1, 1) := by decide +kernel
theorem dX0_rowOnDay_47 : decode cX0_rowOnDay 47 = .ok (.iaload, 1) := by decide +kernel
theorem dX0_rowOnDay_48 : decode cX0_rowOnDay 48 = .ok (.ireturn, 1) := by decide +kernel
theorem dX0_entryInRow_0 : decode cX0_entryInRow 0 = .ok (.iconst 0, 1) := by decide +kernel
theorem dX0_entryInRow_1 : decode cX0_entryInRow 1 = .ok (.istore_n 3, 1) := by decide +kernel
theorem dX0_entryInRow_2 : decode cX0_entryInRow 2 = .ok (.iload_n 3, 1) := by decide +kernel
theorem dX0_entryInRow_3 : decode cX0_entryInRow 3 = .ok (.aload_n 0, 1) := by decide +kernel
theorem dX0_entryInRow_4 : decode cX0_entryInRow 4 = .ok (.getfield 12, 3) := by decide +kernel
theorem dX0_entryInRow_7 : decode cX0_entryInRow 7 = .ok (.getfield 72, 3) := by decide +kernel
theorem dX0_entryInRow_10 : decode cX0_entryInRow 10 = .ok (.if_icmp .ge 21, 3) := by decide +kernel
theorem dX0_entryInRow_13 : decode cX0_entryInRow 13 = .ok (.aload_n 0, 1) := by decide +kernel
theorem dX0_entryInRow_14 : decode cX0_entryInRow 14 = .ok (.iload_n 3, 1) := by decide +kernel
theorem dX0_entryInRow_15 : decode cX0_entryInRow 15 = .ok (.iload_n 1, 1) := by decide +kernel
theorem dX0_entryInRow_16 : decode cX0_entryInRow 16 = .ok (.invokevirtual 127, 3) := by decide +kernel
theorem dX0_entryInRow_19 : decode cX0_entryInRow 19 = .ok (.iload_n 2, 1) := by decide +kernel
theorem dX0_entryInRow_20 : decode cX0_entryInRow 20 = .ok (.if_icmp .ne 5, 3) := by decide +kernel
theorem dX0_entryInRow_23 : decode cX0_entryInRow 23 = .ok (.iload_n 3, 1) := by decide +kernel
theorem dX0_entryInRow_24 : decode cX0_entryInRow 24 = .ok (.ireturn, 1) := by decide +kernel
theorem dX0_entryInRow_25 : decode cX0_entryInRow 25 = .ok (.iinc 3 1, 3) := by decide +kernel
theorem dX0_entryInRow_28 : decode cX0_entryInRow 28 = .ok (.goto (-26), 3) := by decide +kernel
theorem dX0_entryInRow_31 : decode cX0_entryInRow 31 = .ok (.bipush (-9), 2) := by decide +kernel
theorem dX0_entryInRow_33 : decode cX0_entryInRow 33 = .ok (.ireturn, 1) := by decide +kernel
theorem dX0_rowsOnDay_0 : decode cX0_rowsOnDay 0 = .ok (.bipush 24, 2) := by decide +kernel
theorem dX0_rowsOnDay_2 : decode cX0_rowsOnDay 2 = .ok (.istore_n 2, 1) := by decide +kernel
theorem dX0_rowsOnDay_3 : decode cX0_rowsOnDay 3 = .ok (.iload_n 2, 1) := by decide +kernel
theorem dX0_rowsOnDay_4 : decode cX0_rowsOnDay 4 = .ok (.ifCond .le 32, 3) := by decide +kernel
theorem dX0_rowsOnDay_7 : decode cX0_rowsOnDay 7 = .ok (.aload_n 0, 1) := by decide +kernel
theorem dX0_rowsOnDay_8 : decode cX0_rowsOnDay 8 = .ok (.getfield 34, 3) := by decide +kernel
theorem dX0_rowsOnDay_11 : decode cX0_rowsOnDay 11 = .ok (.iload_n 1, 1) := by decide +kernel
theorem dX0_rowsOnDay_12 : decode cX0_rowsOnDay 12 = .ok (.aload_n 0, 1) := by decide +kernel
theorem dX0_rowsOnDay_13 : decode cX0_rowsOnDay 13 = .ok (.getfield 12, 3) := by decide +kernel
theorem dX0_rowsOnDay_16 : decode cX0_rowsOnDay 16 = .ok (.getfield 63, 3) := by decide +kernel
theorem dX0_rowsOnDay_19 : decode cX0_rowsOnDay 19 = .ok (.isub, 1) := by decide +kernel
theorem dX0_rowsOnDay_20 : decode cX0_rowsOnDay 20 = .ok (.iaload, 1) := by decide +kernel
theorem dX0_rowsOnDay_21 : decode cX0_rowsOnDay 21 = .ok (.iload_n 2, 1) := by decide +kernel
theorem dX0_rowsOnDay_22 : decode cX0_rowsOnDay 22 = .ok (.iconst 1, 1) := by decide +kernel
theorem dX0_rowsOnDay_23 : decode cX0_rowsOnDay 23 = .ok (.isub, 1) := by decide +kernel
theorem dX0_rowsOnDay_24 : decode cX0_rowsOnDay 24 = .ok (.ishr, 1) := by decide +kernel
theorem dX0_rowsOnDay_25 : decode cX0_rowsOnDay 25 = .ok (.iconst 1, 1) := by decide +kernel
theorem dX0_rowsOnDay_26 : decode cX0_rowsOnDay 26 = .ok (.iand, 1) := by decide +kernel
theorem dX0_rowsOnDay_27 : decode cX0_rowsOnDay 27 = .ok (.ifCond .ne 9, 3) := by decide +kernel
theorem dX0_rowsOnDay_30 : decode cX0_rowsOnDay 30 = .ok (.iinc 2 (-1), 3) := by decide +kernel
theorem dX0_rowsOnDay_33 : decode cX0_rowsOnDay 33 = .ok (.goto (-30), 3) := by decide +kernel
theorem dX0_rowsOnDay_36 : decode cX0_rowsOnDay 36 = .ok (.iload_n 2, 1) := by decide +kernel
theorem dX0_rowsOnDay_37 : decode cX0_rowsOnDay 37 = .ok (.ireturn, 1) := by decide +kernel
theorem dX0_hiddenOnDay_0 : decode cX0_hiddenOnDay 0 = .ok (.aload_n 0, 1) := by decide +kernel
theorem dX0_hiddenOnDay_1 : decode cX0_hiddenOnDay 1 = .ok (.getfield 34, 3) := by decide +kernel
theorem dX0_hiddenOnDay_4 : decode cX0_hiddenOnDay 4 = .ok (.iload_n 1, 1) := by decide +kernel
theorem dX0_hiddenOnDay_5 : decode cX0_hiddenOnDay 5 = .ok (.aload_n 0, 1) := by decide +kernel
theorem dX0_hiddenOnDay_6 : decode cX0_hiddenOnDay 6 = .ok (.getfield 12, 3) := by decide +kernel
theorem dX0_hiddenOnDay_9 : decode cX0_hiddenOnDay 9 = .ok (.getfield 63, 3) := by decide +kernel
theorem dX0_hiddenOnDay_12 : decode cX0_hiddenOnDay 12 = .ok (.isub, 1) := by decide +kernel
theorem dX0_hiddenOnDay_13 : decode cX0_hiddenOnDay 13 = .ok (.iaload, 1) := by decide +kernel
theorem dX0_hiddenOnDay_14 : decode cX0_hiddenOnDay 14 = .ok (.istore_n 3, 1) := by decide +kernel
theorem dX0_hiddenOnDay_15 : decode cX0_hiddenOnDay 15 = .ok (.iload_n 3, 1) := by decide +kernel
theorem dX0_hiddenOnDay_16 : decode cX0_hiddenOnDay 16 = .ok (.iload_n 2, 1) := by decide +kernel
theorem dX0_hiddenOnDay_17 : decode cX0_hiddenOnDay 17 = .ok (.ishr, 1) := by decide +kernel
theorem dX0_hiddenOnDay_18 : decode cX0_hiddenOnDay 18 = .ok (.ifCond .ne 7, 3) := by decide +kernel
theorem dX0_hiddenOnDay_21 : decode cX0_hiddenOnDay 21 = .ok (.iconst 0, 1) := by decide +kernel
theorem dX0_hiddenOnDay_22 : decode cX0_hiddenOnDay 22 = .ok (.goto 11, 3) := by decide +kernel
theorem dX0_hiddenOnDay_25 : decode cX0_hiddenOnDay 25 = .ok (.iload_n 3, 1) := by decide +kernel
theorem dX0_hiddenOnDay_26 : decode cX0_hiddenOnDay 26 = .ok (.iload_n 2, 1) := by decide +kernel
theorem dX0_hiddenOnDay_27 : decode cX0_hiddenOnDay 27 = .ok (.iconst 1, 1) := by decide +kernel
theorem dX0_hiddenOnDay_28 : decode cX0_hiddenOnDay 28 = .ok (.isub, 1) := by decide +kernel
theorem dX0_hiddenOnDay_29 : decode cX0_hiddenOnDay 29 = .ok (.ishr, 1) := by decide +kernel
theorem dX0_hiddenOnDay_30 : decode cX0_hiddenOnDay 30 = .ok (.invokestatic 130, 3) := by decide +kernel
theorem dX0_hiddenOnDay_33 : decode cX0_hiddenOnDay 33 = .ok (.ireturn, 1) := by decide +kernel
theorem dX0_hiddenOnDays_0 : decode cX0_hiddenOnDays 0 = .ok (.iconst 0, 1) := by decide +kernel
theorem dX0_hiddenOnDays_1 : decode cX0_hiddenOnDays 1 = .ok (.istore 4, 2) := by decide +kernel
theorem dX0_hiddenOnDays_3 : decode cX0_hiddenOnDays 3 = .ok (.iload_n 1, 1) := by decide +kernel
theorem dX0_hiddenOnDays_4 : decode cX0_hiddenOnDays 4 = .ok (.istore 5, 2) := by decide +kernel
theorem dX0_hiddenOnDays_6 : decode cX0_hiddenOnDays 6 = .ok (.iload 5, 2) := by decide +kernel
theorem dX0_hiddenOnDays_8 : decode cX0_hiddenOnDays 8 = .ok (.iload_n 2, 1) := by decide +kernel
theorem dX0_hiddenOnDays_9 : decode cX0_hiddenOnDays 9 = .ok (.if_icmp .gt 21, 3) := by decide +kernel
theorem dX0_hiddenOnDays_12 : decode cX0_hiddenOnDays 12 = .ok (.iload 4, 2) := by decide +kernel
theorem dX0_hiddenOnDays_14 : decode cX0_hiddenOnDays 14 = .ok (.aload_n 0, 1) := by decide +kernel
theorem dX0_hiddenOnDays_15 : decode cX0_hiddenOnDays 15 = .ok (.iload 5, 2) := by decide +kernel
theorem dX0_hiddenOnDays_17 : decode cX0_hiddenOnDays 17 = .ok (.iload_n 3, 1) := by decide +kernel
theorem dX0_hiddenOnDays_18 : decode cX0_hiddenOnDays 18 = .ok (.invokevirtual 135, 3) := by decide +kernel
theorem dX0_hiddenOnDays_21 : decode cX0_hiddenOnDays 21 = .ok (.iadd, 1) := by decide +kernel
theorem dX0_hiddenOnDays_22 : decode cX0_hiddenOnDays 22 = .ok (.istore 4, 2) := by decide +kernel
theorem dX0_hiddenOnDays_24 : decode cX0_hiddenOnDays 24 = .ok (.iinc 5 1, 3) := by decide +kernel
theorem dX0_hiddenOnDays_27 : decode cX0_hiddenOnDays 27 = .ok (.goto (-21), 3) := by decide +kernel
theorem dX0_hiddenOnDays_30 : decode cX0_hiddenOnDays 30 = .ok (.iload 4, 2) := by decide +kernel
theorem dX0_hiddenOnDays_32 : decode cX0_hiddenOnDays 32 = .ok (.ireturn, 1) := by decide +kernel
theorem dX0_hiddenOnPage_0 : decode cX0_hiddenOnPage 0 = .ok (.aload_n 0, 1) := by decide +kernel
theorem dX0_hiddenOnPage_1 : decode cX0_hiddenOnPage 1 = .ok (.aload_n 0, 1) := by decide +kernel
theorem dX0_hiddenOnPage_2 : decode cX0_hiddenOnPage 2 = .ok (.getfield 12, 3) := by decide +kernel
theorem dX0_hiddenOnPage_5 : decode cX0_hiddenOnPage 5 = .ok (.getfield 63, 3) := by decide +kernel
theorem dX0_hiddenOnPage_8 : decode cX0_hiddenOnPage 8 = .ok (.aload_n 0, 1) := by decide +kernel
theorem dX0_hiddenOnPage_9 : decode cX0_hiddenOnPage 9 = .ok (.getfield 12, 3) := by decide +kernel
theorem dX0_hiddenOnPage_12 : decode cX0_hiddenOnPage 12 = .ok (.getfield 66, 3) := by decide +kernel
theorem dX0_hiddenOnPage_15 : decode cX0_hiddenOnPage 15 = .ok (.iload_n 1, 1) := by decide +kernel
theorem dX0_hiddenOnPage_16 : decode cX0_hiddenOnPage 16 = .ok (.invokevirtual 138, 3) := by decide +kernel
theorem dX0_hiddenOnPage_19 : decode cX0_hiddenOnPage 19 = .ok (.ireturn, 1) := by decide +kernel
theorem dX0_daysHidden_0 : decode cX0_daysHidden 0 = .ok (.iconst 0, 1) := by decide +kernel
theorem dX0_daysHidden_1 : decode cX0_daysHidden 1 = .ok (.istore_n 2, 1) := by decide +kernel
theorem dX0_daysHidden_2 : decode cX0_daysHidden 2 = .ok (.aload_n 0, 1) := by decide +kernel
theorem dX0_daysHidden_3 : decode cX0_daysHidden 3 = .ok (.getfield 12, 3) := by decide +kernel
theorem dX0_daysHidden_6 : decode cX0_daysHidden 6 = .ok (.getfield 63, 3) := by decide +kernel
theorem dX0_daysHidden_9 : decode cX0_daysHidden 9 = .ok (.istore_n 3, 1) := by decide +kernel
theorem dX0_daysHidden_10 : decode cX0_daysHidden 10 = .ok (.iload_n 3, 1) := by decide +kernel
theorem dX0_daysHidden_11 : decode cX0_daysHidden 11 = .ok (.aload_n 0, 1) := by decide +kernel
theorem dX0_daysHidden_12 : decode cX0_daysHidden 12 = .ok (.getfield 12, 3) := by decide +kernel
theorem dX0_daysHidden_15 : decode cX0_daysHidden 15 = .ok (.getfield 66, 3) := by decide +kernel
theorem dX0_daysHidden_18 : decode cX0_daysHidden 18 = .ok (.if_icmp .gt 45, 3) := by decide +kernel
theorem dX0_daysHidden_21 : decode cX0_daysHidden 21 = .ok (.aload_n 0, 1) := by decide +kernel
theorem dX0_daysHidden_22 : decode cX0_daysHidden 22 = .ok (.iload_n 1, 1) := by decide +kernel
theorem dX0_daysHidden_23 : decode cX0_daysHidden 23 = .ok (.iload_n 3, 1) := by decide +kernel
theorem dX0_daysHidden_24 : decode cX0_daysHidden 24 = .ok (.invokevirtual 127, 3) := by decide +kernel
theorem dX0_daysHidden_27 : decode cX0_daysHidden 27 = .ok (.aload_n 0, 1) := by decide +kernel
theorem dX0_daysHidden_28 : decode cX0_daysHidden 28 = .ok (.getfield 12, 3) := by decide +kernel
theorem dX0_daysHidden_31 : decode cX0_daysHidden 31 = .ok (.getfield 142, 3) := by decide +kernel
theorem dX0_daysHidden_34 : decode cX0_daysHidden 34 = .ok (.iconst 1, 1) := by decide +kernel
theorem dX0_daysHidden_35 : decode cX0_daysHidden 35 = .ok (.isub, 1) := by decide +kernel
theorem dX0_daysHidden_36 : decode cX0_daysHidden 36 = .ok (.if_icmp .lt 21, 3) := by decide +kernel
theorem dX0_daysHidden_39 : decode cX0_daysHidden 39 = .ok (.aload_n 0, 1) := by decide +kernel
theorem dX0_daysHidden_40 : decode cX0_daysHidden 40 = .ok (.iload_n 3, 1) := by decide +kernel
theorem dX0_daysHidden_41 : decode cX0_daysHidden 41 = .ok (.aload_n 0, 1) := by decide +kernel
theorem dX0_daysHidden_42 : decode cX0_daysHidden 42 = .ok (.getfield 12, 3) := by decide +kernel
theorem dX0_daysHidden_45 : decode cX0_daysHidden 45 = .ok (.getfield 142, 3) := by decide +kernel
theorem dX0_daysHidden_48 : decode cX0_daysHidden 48 = .ok (.invokevirtual 135, 3) := by decide +kernel
theorem dX0_daysHidden_51 : decode cX0_daysHidden 51 = .ok (.ifCond .le 6, 3) := by decide +kernel
theorem dX0_daysHidden_54 : decode cX0_daysHidden 54 = .ok (.iinc 2 1, 3) := by decide +kernel
theorem dX0_daysHidden_57 : decode cX0_daysHidden 57 = .ok (.iinc 3 1, 3) := by decide +kernel
theorem dX0_daysHidden_60 : decode cX0_daysHidden 60 = .ok (.goto (-50), 3) := by decide +kernel
theorem dX0_daysHidden_63 : decode cX0_daysHidden 63 = .ok (.iload_n 2, 1) := by decide +kernel
theorem dX0_daysHidden_64 : decode cX0_daysHidden 64 = .ok (.ireturn, 1) := by decide +kernel
theorem dX0_isEmptyOnDays_0 : decode cX0_isEmptyOnDays 0 = .ok (.iload_n 1, 1) := by decide +kernel
theorem dX0_isEmptyOnDays_1 : decode cX0_isEmptyOnDays 1 = .ok (.istore_n 3, 1) := by decide +kernel
theorem dX0_isEmptyOnDays_2 : decode cX0_isEmptyOnDays 2 = .ok (.iload_n 3, 1) := by decide +kernel
theorem dX0_isEmptyOnDays_3 : decode cX0_isEmptyOnDays 3 = .ok (.iload_n 2, 1) := by decide +kernel
theorem dX0_isEmptyOnDays_4 : decode cX0_isEmptyOnDays 4 = .ok (.if_icmp .gt 28, 3) := by decide +kernel
theorem dX0_isEmptyOnDays_7 : decode cX0_isEmptyOnDays 7 = .ok (.aload_n 0, 1) := by decide +kernel
theorem dX0_isEmptyOnDays_8 : decode cX0_isEmptyOnDays 8 = .ok (.getfield 34, 3) := by decide +kernel
theorem dX0_isEmptyOnDays_11 : decode cX0_isEmptyOnDays 11 = .ok (.iload_n 3, 1) := by decide +kernel
theorem dX0_isEmptyOnDays_12 : decode cX0_isEmptyOnDays 12 = .ok (.aload_n 0, 1) := by decide +kernel
theorem dX0_isEmptyOnDays_13 : decode cX0_isEmptyOnDays 13 = .ok (.getfield 12, 3) := by decide +kernel
theorem dX0_isEmptyOnDays_16 : decode cX0_isEmptyOnDays 16 = .ok (.getfield 63, 3) := by decide +kernel
theorem dX0_isEmptyOnDays_19 : decode cX0_isEmptyOnDays 19 = .ok (.isub, 1) := by decide +kernel
theorem dX0_isEmptyOnDays_20 : decode cX0_isEmptyOnDays 20 = .ok (.iaload, 1) := by decide +kernel
theorem dX0_isEmptyOnDays_21 : decode cX0_isEmptyOnDays 21 = .ok (.ifCond .eq 5, 3) := by decide +kernel
theorem dX0_isEmptyOnDays_24 : decode cX0_isEmptyOnDays 24 = .ok (.iconst 0, 1) := by decide +kernel
theorem dX0_isEmptyOnDays_25 : decode cX0_isEmptyOnDays 25 = .ok (.ireturn, 1) := by decide +kernel
theorem dX0_isEmptyOnDays_26 : decode cX0_isEmptyOnDays 26 = .ok (.iinc 3 1, 3) := by decide +kernel
theorem dX0_isEmptyOnDays_29 : decode cX0_isEmptyOnDays 29 = .ok (.goto (-27), 3) := by decide +kernel
theorem dX0_isEmptyOnDays_32 : decode cX0_isEmptyOnDays 32 = .ok (.iconst 1, 1) := by decide +kernel
theorem dX0_isEmptyOnDays_33 : decode cX0_isEmptyOnDays 33 = .ok (.ireturn, 1) := by decide +kernel
theorem dX1_init_0 : decode cX1_init 0 = .ok (.aload_n 0, 1) := by decide +kernel
theorem dX1_init_1 : decode cX1_init 1 = .ok (.invokespecial 3, 3) := by decide +kernel
theorem dX1_init_4 : decode cX1_init 4 = .ok (.aload_n 0, 1) := by decide +kernel
theorem dX1_init_5 : decode cX1_init 5 = .ok (.bipush 8, 2) := by decide +kernel
theorem dX1_init_7 : decode cX1_init 7 = .ok (.anewarray 9, 3) := by decide +kernel
theorem dX1_init_10 : decode cX1_init 10 = .ok (.putfield 11, 3) := by decide +kernel
theorem dX1_init_13 : decode cX1_init 13 = .ok (.aload_n 0, 1) := by decide +kernel
theorem dX1_init_14 : decode cX1_init 14 = .ok (.iconst 0, 1) := by decide +kernel
theorem dX1_init_15 : decode cX1_init 15 = .ok (.putfield 17, 3) := by decide +kernel
theorem dX1_init_18 : decode cX1_init 18 = .ok (.aload_n 0, 1) := by decide +kernel
theorem dX1_init_19 : decode cX1_init 19 = .ok (.iconst 0, 1) := by decide +kernel
theorem dX1_init_20 : decode cX1_init 20 = .ok (.putfield 21, 3) := by decide +kernel
theorem dX1_init_23 : decode cX1_init 23 = .ok (.iconst 0, 1) := by decide +kernel
theorem dX1_init_24 : decode cX1_init 24 = .ok (.istore_n 1, 1) := by decide +kernel
theorem dX1_init_25 : decode cX1_init 25 = .ok (.iload_n 1, 1) := by decide +kernel
theorem dX1_init_26 : decode cX1_init 26 = .ok (.bipush 8, 2) := by decide +kernel
theorem dX1_init_28 : decode cX1_init 28 = .ok (.if_icmp .ge 22, 3) := by decide +kernel
theorem dX1_init_31 : decode cX1_init 31 = .ok (.aload_n 0, 1) := by decide +kernel
theorem dX1_init_32 : decode cX1_init 32 = .ok (.getfield 11, 3) := by decide +kernel
theorem dX1_init_35 : decode cX1_init 35 = .ok (.iload_n 1, 1) := by decide +kernel
theorem dX1_init_36 : decode cX1_init 36 = .ok (.new 9, 3) := by decide +kernel
theorem dX1_init_39 : decode cX1_init 39 = .ok (.dup, 1) := by decide +kernel
theorem dX1_init_40 : decode cX1_init 40 = .ok (.invokespecial 24, 3) := by decide +kernel
theorem dX1_init_43 : decode cX1_init 43 = .ok (.aastore, 1) := by decide +kernel
theorem dX1_init_44 : decode cX1_init 44 = .ok (.iinc 1 1, 3) := by decide +kernel
theorem dX1_init_47 : decode cX1_init 47 = .ok (.goto (-22), 3) := by decide +kernel
theorem dX1_init_50 : decode cX1_init 50 = .ok (.return_, 1) := by decide +kernel
theorem dX1_record_0 : decode cX1_record 0 = .ok (.aload_n 0, 1) := by decide +kernel
theorem dX1_record_1 : decode cX1_record 1 = .ok (.getfield 11, 3) := by decide +kernel
theorem dX1_record_4 : decode cX1_record 4 = .ok (.aload_n 0, 1) := by decide +kernel
theorem dX1_record_5 : decode cX1_record 5 = .ok (.getfield 17, 3) := by decide +kernel
theorem dX1_record_8 : decode cX1_record 8 = .ok (.aload_n 0, 1) := by decide +kernel
theorem dX1_record_9 : decode cX1_record 9 = .ok (.getfield 21, 3) := by decide +kernel
theorem dX1_record_12 : decode cX1_record 12 = .ok (.iadd, 1) := by decide +kernel
theorem dX1_record_13 : decode cX1_record 13 = .ok (.bipush 8, 2) := by decide +kernel
theorem dX1_record_15 : decode cX1_record 15 = .ok (.irem, 1) := by decide +kernel
theorem dX1_record_16 : decode cX1_record 16 = .ok (.aaload, 1) := by decide +kernel
theorem dX1_record_17 : decode cX1_record 17 = .ok (.aload_n 1, 1) := by decide +kernel
theorem dX1_record_18 : decode cX1_record 18 = .ok (.invokevirtual 25, 3) := by decide +kernel
theorem dX1_record_21 : decode cX1_record 21 = .ok (.aload_n 0, 1) := by decide +kernel
theorem dX1_record_22 : decode cX1_record 22 = .ok (.getfield 21, 3) := by decide +kernel
theorem dX1_record_25 : decode cX1_record 25 = .ok (.bipush 8, 2) := by decide +kernel
theorem dX1_record_27 : decode cX1_record 27 = .ok (.if_icmp .ge 16, 3) := by decide +kernel
theorem dX1_record_30 : decode cX1_record 30 = .ok (.aload_n 0, 1) := by decide +kernel
theorem dX1_record_31 : decode cX1_record 31 = .ok (.dup, 1) := by decide +kernel
theorem dX1_record_32 : decode cX1_record 32 = .ok (.getfield 21, 3) := by decide +kernel
theorem dX1_record_35 : decode cX1_record 35 = .ok (.iconst 1, 1) := by decide +kernel
theorem dX1_record_36 : decode cX1_record 36 = .ok (.iadd, 1) := by decide +kernel
theorem dX1_record_37 : decode cX1_record 37 = .ok (.putfield 21, 3) := by decide +kernel
theorem dX1_record_40 : decode cX1_record 40 = .ok (.goto 16, 3) := by decide +kernel
theorem dX1_record_43 : decode cX1_record 43 = .ok (.aload_n 0, 1) := by decide +kernel
theorem dX1_record_44 : decode cX1_record 44 = .ok (.aload_n 0, 1) := by decide +kernel
theorem dX1_record_45 : decode cX1_record 45 = .ok (.getfield 17, 3) := by decide +kernel
theorem dX1_record_48 : decode cX1_record 48 = .ok (.iconst 1, 1) := by decide +kernel
theorem dX1_record_49 : decode cX1_record 49 = .ok (.iadd, 1) := by decide +kernel
theorem dX1_record_50 : decode cX1_record 50 = .ok (.bipush 8, 2) := by decide +kernel
theorem dX1_record_52 : decode cX1_record 52 = .ok (.irem, 1) := by decide +kernel
theorem dX1_record_53 : decode cX1_record 53 = .ok (.putfield 17, 3) := by decide +kernel
theorem dX1_record_56 : decode cX1_record 56 = .ok (.return_, 1) := by decide +kernel
theorem dX1_restore_0 : decode cX1_restore 0 = .ok (.aload_n 0, 1) := by decide +kernel
theorem dX1_restore_1 : decode cX1_restore 1 = .ok (.getfield 21, 3) := by decide +kernel
theorem dX1_restore_4 : decode cX1_restore 4 = .ok (.ifCond .gt 4, 3) := by decide +kernel
theorem dX1_restore_7 : decode cX1_restore 7 = .ok (.return_, 1) := by decide +kernel
theorem dX1_restore_8 : decode cX1_restore 8 = .ok (.aload_n 0, 1) := by decide +kernel
theorem dX1_restore_9 : decode cX1_restore 9 = .ok (.dup, 1) := by decide +kernel
theorem dX1_restore_10 : decode cX1_restore 10 = .ok (.getfield 21, 3) := by decide +kernel
theorem dX1_restore_13 : decode cX1_restore 13 = .ok (.iconst 1, 1) := by decide +kernel
theorem dX1_restore_14 : decode cX1_restore 14 = .ok (.isub, 1) := by decide +kernel
theorem dX1_restore_15 : decode cX1_restore 15 = .ok (.putfield 21, 3) := by decide +kernel
theorem dX1_restore_18 : decode cX1_restore 18 = .ok (.aload_n 1, 1) := by decide +kernel
theorem dX1_restore_19 : decode cX1_restore 19 = .ok (.aload_n 0, 1) := by decide +kernel
theorem dX1_restore_20 : decode cX1_restore 20 = .ok (.getfield 11, 3) := by decide +kernel
theorem dX1_restore_23 : decode cX1_restore 23 = .ok (.aload_n 0, 1) := by decide +kernel
theorem dX1_restore_24 : decode cX1_restore 24 = .ok (.getfield 17, 3) := by decide +kernel
theorem dX1_restore_27 : decode cX1_restore 27 = .ok (.aload_n 0, 1) := by decide +kernel
theorem dX1_restore_28 : decode cX1_restore 28 = .ok (.getfield 21, 3) := by decide +kernel
theorem dX1_restore_31 : decode cX1_restore 31 = .ok (.iadd, 1) := by decide +kernel
theorem dX1_restore_32 : decode cX1_restore 32 = .ok (.bipush 8, 2) := by decide +kernel
theorem dX1_restore_34 : decode cX1_restore 34 = .ok (.irem, 1) := by decide +kernel
theorem dX1_restore_35 : decode cX1_restore 35 = .ok (.aaload, 1) := by decide +kernel
theorem dX1_restore_36 : decode cX1_restore 36 = .ok (.invokevirtual 25, 3) := by decide +kernel
theorem dX1_restore_39 : decode cX1_restore 39 = .ok (.return_, 1) := by decide +kernel
theorem dX2_init_0 : decode cX2_init 0 = .ok (.aload_n 0, 1) := by decide +kernel
theorem dX2_init_1 : decode cX2_init 1 = .ok (.invokespecial 3, 3) := by decide +kernel
theorem dX2_init_4 : decode cX2_init 4 = .ok (.aload_n 0, 1) := by decide +kernel
theorem dX2_init_5 : decode cX2_init 5 = .ok (.iconst 0, 1) := by decide +kernel
theorem dX2_init_6 : decode cX2_init 6 = .ok (.putfield 9, 3) := by decide +kernel
theorem dX2_init_9 : decode cX2_init 9 = .ok (.aload_n 0, 1) := by decide +kernel
theorem dX2_init_10 : decode cX2_init 10 = .ok (.bipush 30, 2) := by decide +kernel
theorem dX2_init_12 : decode cX2_init 12 = .ok (.putfield 15, 3) := by decide +kernel
theorem dX2_init_15 : decode cX2_init 15 = .ok (.aload_n 0, 1) := by decide +kernel
theorem dX2_init_16 : decode cX2_init 16 = .ok (.iconst 0, 1) := by decide +kernel
theorem dX2_init_17 : decode cX2_init 17 = .ok (.putfield 18, 3) := by decide +kernel
theorem dX2_init_20 : decode cX2_init 20 = .ok (.aload_n 0, 1) := by decide +kernel
theorem dX2_init_21 : decode cX2_init 21 = .ok (.iconst 4, 1) := by decide +kernel
theorem dX2_init_22 : decode cX2_init 22 = .ok (.putfield 21, 3) := by decide +kernel
theorem dX2_init_25 : decode cX2_init 25 = .ok (.aload_n 0, 1) := by decide +kernel
theorem dX2_init_26 : decode cX2_init 26 = .ok (.iconst 0, 1) := by decide +kernel
theorem dX2_init_27 : decode cX2_init 27 = .ok (.putfield 24, 3) := by decide +kernel
theorem dX2_init_30 : decode cX2_init 30 = .ok (.aload_n 0, 1) := by decide +kernel
theorem dX2_init_31 : decode cX2_init 31 = .ok (.bipush 24, 2) := by decide +kernel
theorem dX2_init_33 : decode cX2_init 33 = .ok (.newarray .int, 2) := by decide +kernel
theorem dX2_init_35 : decode cX2_init 35 = .ok (.putfield 27, 3) := by decide +kernel
theorem dX2_init_38 : decode cX2_init 38 = .ok (.aload_n 0, 1) := by decide +kernel
theorem dX2_init_39 : decode cX2_init 39 = .ok (.bipush 24, 2) := by decide +kernel
theorem dX2_init_41 : decode cX2_init 41 = .ok (.newarray .int, 2) := by decide +kernel
theorem dX2_init_43 : decode cX2_init 43 = .ok (.putfield 31, 3) := by decide +kernel
theorem dX2_init_46 : decode cX2_init 46 = .ok (.aload_n 0, 1) := by decide +kernel
theorem dX2_init_47 : decode cX2_init 47 = .ok (.bipush 24, 2) := by decide +kernel
theorem dX2_init_49 : decode cX2_init 49 = .ok (.newarray .int, 2) := by decide +kernel
theorem dX2_init_51 : decode cX2_init 51 = .ok (.putfield 34, 3) := by decide +kernel
theorem dX2_init_54 : decode cX2_init 54 = .ok (.aload_n 0, 1) := by decide +kernel
theorem dX2_init_55 : decode cX2_init 55 = .ok (.bipush 24, 2) := by decide +kernel
theorem dX2_init_57 : decode cX2_init 57 = .ok (.newarray .int, 2) := by decide +kernel
theorem dX2_init_59 : decode cX2_init 59 = .ok (.putfield 37, 3) := by decide +kernel
theorem dX2_init_62 : decode cX2_init 62 = .ok (.return_, 1) := by decide +kernel
theorem dX2_copy_0 : decode cX2_copy 0 = .ok (.aload_n 0, 1) := by decide +kernel
theorem dX2_copy_1 : decode cX2_copy 1 = .ok (.aload_n 1, 1) := by decide +kernel
theorem dX2_copy_2 : decode cX2_copy 2 = .ok (.getfield 9, 3) := by decide +kernel
theorem dX2_copy_5 : decode cX2_copy 5 = .ok (.putfield 9, 3) := by decide +kernel
theorem dX2_copy_8 : decode cX2_copy 8 = .ok (.aload_n 0, 1) := by decide +kernel
theorem dX2_copy_9 : decode cX2_copy 9 = .ok (.aload_n 1, 1) := by decide +kernel
theorem dX2_copy_10 : decode cX2_copy 10 = .ok (.getfield 15, 3) := by decide +kernel
theorem dX2_copy_13 : decode cX2_copy 13 = .ok (.putfield 15, 3) := by decide +kernel
theorem dX2_copy_16 : decode cX2_copy 16 = .ok (.aload_n 0, 1) := by decide +kernel
theorem dX2_copy_17 : decode cX2_copy 17 = .ok (.aload_n 1, 1) := by decide +kernel
theorem dX2_copy_18 : decode cX2_copy 18 = .ok (.getfield 18, 3) := by decide +kernel
theorem dX2_copy_21 : decode cX2_copy 21 = .ok (.putfield 18, 3) := by decide +kernel
theorem dX2_copy_24 : decode cX2_copy 24 = .ok (.aload_n 0, 1) := by decide +kernel
theorem dX2_copy_25 : decode cX2_copy 25 = .ok (.aload_n 1, 1) := by decide +kernel
theorem dX2_copy_26 : decode cX2_copy 26 = .ok (.getfield 21, 3) := by decide +kernel
theorem dX2_copy_29 : decode cX2_copy 29 = .ok (.putfield 21, 3) := by decide +kernel
theorem dX2_copy_32 : decode cX2_copy 32 = .ok (.aload_n 0, 1) := by decide +kernel
theorem dX2_copy_33 : decode cX2_copy 33 = .ok (.aload_n 1, 1) := by decide +kernel
theorem dX2_copy_34 : decode cX2_copy 34 = .ok (.getfield 24, 3) := by decide +kernel
theorem dX2_copy_37 : decode cX2_copy 37 = .ok (.putfield 24, 3) := by decide +kernel
theorem dX2_copy_40 : decode cX2_copy 40 = .ok (.iconst 0, 1) := by decide +kernel
theorem dX2_copy_41 : decode cX2_copy 41 = .ok (.istore_n 2, 1) := by decide +kernel
theorem dX2_copy_42 : decode cX2_copy 42 = .ok (.iload_n 2, 1) := by decide +kernel
theorem dX2_copy_43 : decode cX2_copy 43 = .ok (.bipush 24, 2) := by decide +kernel
theorem dX2_copy_45 : decode cX2_copy 45 = .ok (.if_icmp .ge 57, 3) := by decide +kernel
theorem dX2_copy_48 : decode cX2_copy 48 = .ok (.aload_n 0, 1) := by decide +kernel
theorem dX2_copy_49 : decode cX2_copy 49 = .ok (.getfield 27, 3) := by decide +kernel
theorem dX2_copy_52 : decode cX2_copy 52 = .ok (.iload_n 2, 1) := by decide +kernel
theorem dX2_copy_53 : decode cX2_copy 53 = .ok (.aload_n 1, 1) := by decide +kernel
theorem dX2_copy_54 : decode cX2_copy 54 = .ok (.getfield 27, 3) := by decide +kernel
theorem dX2_copy_57 : decode cX2_copy 57 = .ok (.iload_n 2, 1) := by decide +kernel
theorem dX2_copy_58 : decode cX2_copy 58 = .ok (.iaload, 1) := by decide +kernel
theorem dX2_copy_59 : decode cX2_copy 59 = .ok (.iastore, 1) := by decide +kernel
theorem dX2_copy_60 : decode cX2_copy 60 = .ok (.aload_n 0, 1) := by decide +kernel
theorem dX2_copy_61 : decode cX2_copy 61 = .ok (.getfield 31, 3) := by decide +kernel
theorem dX2_copy_64 : decode cX2_copy 64 = .ok (.iload_n 2, 1) := by decide +kernel
theorem dX2_copy_65 : decode cX2_copy 65 = .ok (.aload_n 1, 1) := by decide +kernel
theorem dX2_copy_66 : decode cX2_copy 66 = .ok (.getfield 31, 3) := by decide +kernel
theorem dX2_copy_69 : decode cX2_copy 69 = .ok (.iload_n 2, 1) := by decide +kernel
theorem dX2_copy_70 : decode cX2_copy 70 = .ok (.iaload, 1) := by decide +kernel
theorem dX2_copy_71 : decode cX2_copy 71 = .ok (.iastore, 1) := by decide +kernel
theorem dX2_copy_72 : decode cX2_copy 72 = .ok (.aload_n 0, 1) := by decide +kernel
theorem dX2_copy_73 : decode cX2_copy 73 = .ok (.getfield 34, 3) := by decide +kernel
theorem dX2_copy_76 : decode cX2_copy 76 = .ok (.iload_n 2, 1) := by decide +kernel
theorem dX2_copy_77 : decode cX2_copy 77 = .ok (.aload_n 1, 1) := by decide +kernel
theorem dX2_copy_78 : decode cX2_copy 78 = .ok (.getfield 34, 3) := by decide +kernel
theorem dX2_copy_81 : decode cX2_copy 81 = .ok (.iload_n 2, 1) := by decide +kernel
theorem dX2_copy_82 : decode cX2_copy 82 = .ok (.iaload, 1) := by decide +kernel
theorem dX2_copy_83 : decode cX2_copy 83 = .ok (.iastore, 1) := by decide +kernel
theorem dX2_copy_84 : decode cX2_copy 84 = .ok (.aload_n 0, 1) := by decide +kernel
theorem dX2_copy_85 : decode cX2_copy 85 = .ok (.getfield 37, 3) := by decide +kernel
theorem dX2_copy_88 : decode cX2_copy 88 = .ok (.iload_n 2, 1) := by decide +kernel
theorem dX2_copy_89 : decode cX2_copy 89 = .ok (.aload_n 1, 1) := by decide +kernel
theorem dX2_copy_90 : decode cX2_copy 90 = .ok (.getfield 37, 3) := by decide +kernel
theorem dX2_copy_93 : decode cX2_copy 93 = .ok (.iload_n 2, 1) := by decide +kernel
theorem dX2_copy_94 : decode cX2_copy 94 = .ok (.iaload, 1) := by decide +kernel
theorem dX2_copy_95 : decode cX2_copy 95 = .ok (.iastore, 1) := by decide +kernel
theorem dX2_copy_96 : decode cX2_copy 96 = .ok (.iinc 2 1, 3) := by decide +kernel
theorem dX2_copy_99 : decode cX2_copy 99 = .ok (.goto (-57), 3) := by decide +kernel
theorem dX2_copy_102 : decode cX2_copy 102 = .ok (.return_, 1) := by decide +kernel
theorem dX2_append_0 : decode cX2_append 0 = .ok (.aload_n 0, 1) := by decide +kernel
theorem dX2_append_1 : decode cX2_append 1 = .ok (.getfield 24, 3) := by decide +kernel
theorem dX2_append_4 : decode cX2_append 4 = .ok (.bipush 24, 2) := by decide +kernel
theorem dX2_append_6 : decode cX2_append 6 = .ok (.if_icmp .lt 4, 3) := by decide +kernel
theorem dX2_append_9 : decode cX2_append 9 = .ok (.return_, 1) := by decide +kernel
theorem dX2_append_10 : decode cX2_append 10 = .ok (.aload_n 0, 1) := by decide +kernel
theorem dX2_append_11 : decode cX2_append 11 = .ok (.getfield 27, 3) := by decide +kernel
theorem dX2_append_14 : decode cX2_append 14 = .ok (.aload_n 0, 1) := by decide +kernel
theorem dX2_append_15 : decode cX2_append 15 = .ok (.getfield 24, 3) := by decide +kernel
theorem dX2_append_18 : decode cX2_append 18 = .ok (.iload_n 1, 1) := by decide +kernel
theorem dX2_append_19 : decode cX2_append 19 = .ok (.iastore, 1) := by decide +kernel
theorem dX2_append_20 : decode cX2_append 20 = .ok (.aload_n 0, 1) := by decide +kernel
theorem dX2_append_21 : decode cX2_append 21 = .ok (.getfield 31, 3) := by decide +kernel
theorem dX2_append_24 : decode cX2_append 24 = .ok (.aload_n 0, 1) := by decide +kernel
theorem dX2_append_25 : decode cX2_append 25 = .ok (.getfield 24, 3) := by decide +kernel
theorem dX2_append_28 : decode cX2_append 28 = .ok (.iload_n 2, 1) := by decide +kernel
theorem dX2_append_29 : decode cX2_append 29 = .ok (.iastore, 1) := by decide +kernel
theorem dX2_append_30 : decode cX2_append 30 = .ok (.aload_n 0, 1) := by decide +kernel
theorem dX2_append_31 : decode cX2_append 31 = .ok (.getfield 34, 3) := by decide +kernel
theorem dX2_append_34 : decode cX2_append 34 = .ok (.aload_n 0, 1) := by decide +kernel
theorem dX2_append_35 : decode cX2_append 35 = .ok (.getfield 24, 3) := by decide +kernel
theorem dX2_append_38 : decode cX2_append 38 = .ok (.iload_n 3, 1) := by decide +kernel
theorem dX2_append_39 : decode cX2_append 39 = .ok (.iastore, 1) := by decide +kernel
theorem dX2_append_40 : decode cX2_append 40 = .ok (.aload_n 0, 1) := by decide +kernel
theorem dX2_append_41 : decode cX2_append 41 = .ok (.getfield 37, 3) := by decide +kernel
theorem dX2_append_44 : decode cX2_append 44 = .ok (.aload_n 0, 1) := by decide +kernel
theorem dX2_append_45 : decode cX2_append 45 = .ok (.getfield 24, 3) := by decide +kernel
theorem dX2_append_48 : decode cX2_append 48 = .ok (.iload 4, 2) := by decide +kernel
theorem dX2_append_50 : decode cX2_append 50 = .ok (.iastore, 1) := by decide +kernel
theorem dX2_append_51 : decode cX2_append 51 = .ok (.aload_n 0, 1) := by decide +kernel
theorem dX2_append_52 : decode cX2_append 52 = .ok (.dup, 1) := by decide +kernel
theorem dX2_append_53 : decode cX2_append 53 = .ok (.getfield 24, 3) := by decide +kernel
theorem dX2_append_56 : decode cX2_append 56 = .ok (.iconst 1, 1) := by decide +kernel
theorem dX2_append_57 : decode cX2_append 57 = .ok (.iadd, 1) := by decide +kernel
theorem dX2_append_58 : decode cX2_append 58 = .ok (.putfield 24, 3) := by decide +kernel
theorem dX2_append_61 : decode cX2_append 61 = .ok (.return_, 1) := by decide +kernel
theorem dX2_remove_0 : decode cX2_remove 0 = .ok (.iload_n 1, 1) := by decide +kernel
theorem dX2_remove_1 : decode cX2_remove 1 = .ok (.istore_n 2, 1) := by decide +kernel
theorem dX2_remove_2 : decode cX2_remove 2 = .ok (.iload_n 2, 1) := by decide +kernel
theorem dX2_remove_3 : decode cX2_remove 3 = .ok (.aload_n 0, 1) := by decide +kernel
theorem dX2_remove_4 : decode cX2_remove 4 = .ok (.getfield 24, 3) := by decide +kernel
theorem dX2_remove_7 : decode cX2_remove 7 = .ok (.iconst 1, 1) := by decide +kernel
theorem dX2_remove_8 : decode cX2_remove 8 = .ok (.isub, 1) := by decide +kernel
theorem dX2_remove_9 : decode cX2_remove 9 = .ok (.if_icmp .ge 65, 3) := by decide +kernel
theorem dX2_remove_12 : decode cX2_remove 12 = .ok (.aload_n 0, 1) := by decide +kernel
theorem dX2_remove_13 : decode cX2_remove 13 = .ok (.getfield 27, 3) := by decide +kernel
theorem dX2_remove_16 : decode cX2_remove 16 = .ok (.iload_n 2, 1) := by decide +kernel
theorem dX2_remove_17 : decode cX2_remove 17 = .ok (.aload_n 0, 1) := by decide +kernel
theorem dX2_remove_18 : decode cX2_remove 18 = .ok (.getfield 27, 3) := by decide +kernel
theorem dX2_remove_21 : decode cX2_remove 21 = .ok (.iload_n 2, 1) := by decide +kernel
theorem dX2_remove_22 : decode cX2_remove 22 = .ok (.iconst 1, 1) := by decide +kernel
theorem dX2_remove_23 : decode cX2_remove 23 = .ok (.iadd, 1) := by decide +kernel
theorem dX2_remove_24 : decode cX2_remove 24 = .ok (.iaload, 1) := by decide +kernel
theorem dX2_remove_25 : decode cX2_remove 25 = .ok (.iastore, 1) := by decide +kernel
theorem dX2_remove_26 : decode cX2_remove 26 = .ok (.aload_n 0, 1) := by decide +kernel
theorem dX2_remove_27 : decode cX2_remove 27 = .ok (.getfield 31, 3) := by decide +kernel
theorem dX2_remove_30 : decode cX2_remove 30 = .ok (.iload_n 2, 1) := by decide +kernel
theorem dX2_remove_31 : decode cX2_remove 31 = .ok (.aload_n 0, 1) := by decide +kernel
theorem dX2_remove_32 : decode cX2_remove 32 = .ok (.getfield 31, 3) := by decide +kernel
theorem dX2_remove_35 : decode cX2_remove 35 = .ok (.iload_n 2, 1) := by decide +kernel
theorem dX2_remove_36 : decode cX2_remove 36 = .ok (.iconst 1, 1) := by decide +kernel
theorem dX2_remove_37 : decode cX2_remove 37 = .ok (.iadd, 1) := by decide +kernel
theorem dX2_remove_38 : decode cX2_remove 38 = .ok (.iaload, 1) := by decide +kernel
theorem dX2_remove_39 : decode cX2_remove 39 = .ok (.iastore, 1) := by decide +kernel
theorem dX2_remove_40 : decode cX2_remove 40 = .ok (.aload_n 0, 1) := by decide +kernel
theorem dX2_remove_41 : decode cX2_remove 41 = .ok (.getfield 34, 3) := by decide +kernel
theorem dX2_remove_44 : decode cX2_remove 44 = .ok (.iload_n 2, 1) := by decide +kernel
theorem dX2_remove_45 : decode cX2_remove 45 = .ok (.aload_n 0, 1) := by decide +kernel
theorem dX2_remove_46 : decode cX2_remove 46 = .ok (.getfield 34, 3) := by decide +kernel
theorem dX2_remove_49 : decode cX2_remove 49 = .ok (.iload_n 2, 1) := by decide +kernel
theorem dX2_remove_50 : decode cX2_remove 50 = .ok (.iconst 1, 1) := by decide +kernel
theorem dX2_remove_51 : decode cX2_remove 51 = .ok (.iadd, 1) := by decide +kernel
theorem dX2_remove_52 : decode cX2_remove 52 = .ok (.iaload, 1) := by decide +kernel
theorem dX2_remove_53 : decode cX2_remove 53 = .ok (.iastore, 1) := by decide +kernel
theorem dX2_remove_54 : decode cX2_remove 54 = .ok (.aload_n 0, 1) := by decide +kernel
theorem dX2_remove_55 : decode cX2_remove 55 = .ok (.getfield 37, 3) := by decide +kernel
theorem dX2_remove_58 : decode cX2_remove 58 = .ok (.iload_n 2, 1) := by decide +kernel
theorem dX2_remove_59 : decode cX2_remove 59 = .ok (.aload_n 0, 1) := by decide +kernel
theorem dX2_remove_60 : decode cX2_remove 60 = .ok (.getfield 37, 3) := by decide +kernel
theorem dX2_remove_63 : decode cX2_remove 63 = .ok (.iload_n 2, 1) := by decide +kernel
theorem dX2_remove_64 : decode cX2_remove 64 = .ok (.iconst 1, 1) := by decide +kernel
theorem dX2_remove_65 : decode cX2_remove 65 = .ok (.iadd, 1) := by decide +kernel
theorem dX2_remove_66 : decode cX2_remove 66 = .ok (.iaload, 1) := by decide +kernel
theorem dX2_remove_67 : decode cX2_remove 67 = .ok (.iastore, 1) := by decide +kernel
theorem dX2_remove_68 : decode cX2_remove 68 = .ok (.iinc 2 1, 3) := by decide +kernel
theorem dX2_remove_71 : decode cX2_remove 71 = .ok (.goto (-69), 3) := by decide +kernel
theorem dX2_remove_74 : decode cX2_remove 74 = .ok (.aload_n 0, 1) := by decide +kernel
theorem dX2_remove_75 : decode cX2_remove 75 = .ok (.dup, 1) := by decide +kernel
theorem dX2_remove_76 : decode cX2_remove 76 = .ok (.getfield 24, 3) := by decide +kernel
theorem dX2_remove_79 : decode cX2_remove 79 = .ok (.iconst 1, 1) := by decide +kernel
theorem dX2_remove_80 : decode cX2_remove 80 = .ok (.isub, 1) := by decide +kernel
theorem dX2_remove_81 : decode cX2_remove 81 = .ok (.putfield 24, 3) := by decide +kernel
theorem dX2_remove_84 : decode cX2_remove 84 = .ok (.return_, 1) := by decide +kernel
theorem dX2_isLong_0 : decode cX2_isLong 0 = .ok (.aload_n 0, 1) := by decide +kernel
theorem dX2_isLong_1 : decode cX2_isLong 1 = .ok (.getfield 31, 3) := by decide +kernel
theorem dX2_isLong_4 : decode cX2_isLong 4 = .ok (.iload_n 1, 1) := by decide +kernel
theorem dX2_isLong_5 : decode cX2_isLong 5 = .ok (.iaload, 1) := by decide +kernel
theorem dX2_isLong_6 : decode cX2_isLong 6 = .ok (.aload_n 0, 1) := by decide +kernel
theorem dX2_isLong_7 : decode cX2_isLong 7 = .ok (.getfield 27, 3) := by decide +kernel
theorem dX2_isLong_10 : decode cX2_isLong 10 = .ok (.iload_n 1, 1) := by decide +kernel
theorem dX2_isLong_11 : decode cX2_isLong 11 = .ok (.iaload, 1) := by decide +kernel
theorem dX2_isLong_12 : decode cX2_isLong 12 = .ok (.if_icmp .gt 14, 3) := by decide +kernel
theorem dX2_isLong_15 : decode cX2_isLong 15 = .ok (.aload_n 0, 1) := by decide +kernel
theorem dX2_isLong_16 : decode cX2_isLong 16 = .ok (.getfield 34, 3) := by decide +kernel
theorem dX2_isLong_19 : decode cX2_isLong 19 = .ok (.iload_n 1, 1) := by decide +kernel
theorem dX2_isLong_20 : decode cX2_isLong 20 = .ok (.iaload, 1) := by decide +kernel
theorem dX2_isLong_21 : decode cX2_isLong 21 = .ok (.bipush (-9), 2) := by decide +kernel
theorem dX2_isLong_23 : decode cX2_isLong 23 = .ok (.if_icmp .ne 7, 3) := by decide +kernel
theorem dX2_isLong_26 : decode cX2_isLong 26 = .ok (.iconst 1, 1) := by decide +kernel
theorem dX2_isLong_27 : decode cX2_isLong 27 = .ok (.goto 4, 3) := by decide +kernel
theorem dX2_isLong_30 : decode cX2_isLong 30 = .ok (.iconst 0, 1) := by decide +kernel
theorem dX2_isLong_31 : decode cX2_isLong 31 = .ok (.ireturn, 1) := by decide +kernel
theorem dX2_meets_0 : decode cX2_meets 0 = .ok (.aload_n 0, 1) := by decide +kernel
theorem dX2_meets_1 : decode cX2_meets 1 = .ok (.getfield 27, 3) := by decide +kernel
theorem dX2_meets_4 : decode cX2_meets 4 = .ok (.iload_n 1, 1) := by decide +kernel
theorem dX2_meets_5 : decode cX2_meets 5 = .ok (.iaload, 1) := by decide +kernel
theorem dX2_meets_6 : decode cX2_meets 6 = .ok (.iload_n 3, 1) := by decide +kernel
theorem dX2_meets_7 : decode cX2_meets 7 = .ok (.if_icmp .gt 17, 3) := by decide +kernel
theorem dX2_meets_10 : decode cX2_meets 10 = .ok (.aload_n 0, 1) := by decide +kernel
theorem dX2_meets_11 : decode cX2_meets 11 = .ok (.getfield 31, 3) := by decide +kernel
theorem dX2_meets_14 : decode cX2_meets 14 = .ok (.iload_n 1, 1) := by decide +kernel
theorem dX2_meets_15 : decode cX2_meets 15 = .ok (.iaload, 1) := by decide +kernel
theorem dX2_meets_16 : decode cX2_meets 16 = .ok (.iload_n 2, 1) := by decide +kernel
theorem dX2_meets_17 : decode cX2_meets 17 = .ok (.if_icmp .lt 7, 3) := by decide +kernel
theorem dX2_meets_20 : decode cX2_meets 20 = .ok (.iconst 1, 1) := by decide +kernel
theorem dX2_meets_21 : decode cX2_meets 21 = .ok (.goto 4, 3) := by decide +kernel
theorem dX2_meets_24 : decode cX2_meets 24 = .ok (.iconst 0, 1) := by decide +kernel
theorem dX2_meets_25 : decode cX2_meets 25 = .ok (.ireturn, 1) := by decide +kernel
theorem dX2_daysOnPage_0 : decode cX2_daysOnPage 0 = .ok (.iconst 0, 1) := by decide +kernel
theorem dX2_daysOnPage_1 : decode cX2_daysOnPage 1 = .ok (.aload_n 0, 1) := by decide +kernel
theorem dX2_daysOnPage_2 : decode cX2_daysOnPage 2 = .ok (.getfield 31, 3) := by decide +kernel
theorem dX2_daysOnPage_5 : decode cX2_daysOnPage 5 = .ok (.iload_n 1, 1) := by decide +kernel
theorem dX2_daysOnPage_6 : decode cX2_daysOnPage 6 = .ok (.iaload, 1) := by decide +kernel
theorem dX2_daysOnPage_7 : decode cX2_daysOnPage 7 = .ok (.aload_n 0, 1) := by decide +kernel
theorem dX2_daysOnPage_8 : decode cX2_daysOnPage 8 = .ok (.getfield 15, 3) := by decide +kernel
theorem dX2_daysOnPage_11 : decode cX2_daysOnPage 11 = .ok (.invokestatic 40, 3) := by decide +kernel
theorem dX2_daysOnPage_14 : decode cX2_daysOnPage 14 = .ok (.aload_n 0, 1) := by decide +kernel
theorem dX2_daysOnPage_15 : decode cX2_daysOnPage 15 = .ok (.getfield 27, 3) := by decide +kernel
theorem dX2_daysOnPage_18 : decode cX2_daysOnPage 18 = .ok (.iload_n 1, 1) := by decide +kernel
theorem dX2_daysOnPage_19 : decode cX2_daysOnPage 19 = .ok (.iaload, 1) := by decide +kernel
theorem dX2_daysOnPage_20 : decode cX2_daysOnPage 20 = .ok (.aload_n 0, 1) := by decide +kernel
theorem dX2_daysOnPage_21 : decode cX2_daysOnPage 21 = .ok (.getfield 9, 3) := by decide +kernel
theorem dX2_daysOnPage_24 : decode cX2_daysOnPage 24 = .ok (.invokestatic 46, 3) := by decide +kernel
theorem dX2_daysOnPage_27 : decode cX2_daysOnPage 27 = .ok (.isub, 1) := by decide +kernel
theorem dX2_daysOnPage_28 : decode cX2_daysOnPage 28 = .ok (.iconst 1, 1) := by decide +kernel
theorem dX2_daysOnPage_29 : decode cX2_daysOnPage 29 = .ok (.iadd, 1) := by decide +kernel
theorem dX2_daysOnPage_30 : decode cX2_daysOnPage 30 = .ok (.invokestatic 46, 3) := by decide +kernel
theorem dX2_daysOnPage_33 : decode cX2_daysOnPage 33 = .ok (.ireturn, 1) := by decide +kernel
theorem dX2_shortOnes_0 : decode cX2_shortOnes 0 = .ok (.iconst 0, 1) := by decide +kernel
theorem dX2_shortOnes_1 : decode cX2_shortOnes 1 = .ok (.istore_n 3, 1) := by decide +kernel
theorem dX2_shortOnes_2 : decode cX2_shortOnes 2 = .ok (.iconst 0, 1) := by decide +kernel
theorem dX2_shortOnes_3 : decode cX2_shortOnes 3 = .ok (.istore 4, 2) := by decide +kernel
theorem dX2_shortOnes_5 : decode cX2_shortOnes 5 = .ok (.iload 4, 2) := by decide +kernel
theorem dX2_shortOnes_7 : decode cX2_shortOnes 7 = .ok (.aload_n 0, 1) := by decide +kernel
theorem dX2_shortOnes_8 : decode cX2_shortOnes 8 = .ok (.getfield 24, 3) := by decide +kernel
theorem dX2_shortOnes_11 : decode cX2_shortOnes 11 = .ok (.if_icmp .ge 32, 3) := by decide +kernel
theorem dX2_shortOnes_14 : decode cX2_shortOnes 14 = .ok (.aload_n 0, 1) := by decide +kernel
theorem dX2_shortOnes_15 : decode cX2_shortOnes 15 = .ok (.iload 4, 2) := by decide +kernel
theorem dX2_shortOnes_17 : decode cX2_shortOnes 17 = .ok (.invokevirtual 49, 3) := by decide +kernel
theorem dX2_shortOnes_20 : decode cX2_shortOnes 20 = .ok (.ifCond .ne 17, 3) := by decide +kernel
theorem dX2_shortOnes_23 : decode cX2_shortOnes 23 = .ok (.aload_n 0, 1) := by decide +kernel
theorem dX2_shortOnes_24 : decode cX2_shortOnes 24 = .ok (.iload 4, 2) := by decide +kernel
theorem dX2_shortOnes_26 : decode cX2_shortOnes 26 = .ok (.iload_n 1, 1) := by decide +kernel
theorem dX2_shortOnes_27 : decode cX2_shortOnes 27 = .ok (.iload_n 2, 1) := by decide +kernel
theorem dX2_shortOnes_28 : decode cX2_shortOnes 28 = .ok (.invokevirtual 53, 3) := by decide +kernel
theorem dX2_shortOnes_31 : decode cX2_shortOnes 31 = .ok (.ifCond .eq 6, 3) := by decide +kernel
theorem dX2_shortOnes_34 : decode cX2_shortOnes 34 = .ok (.iinc 3 1, 3) := by decide +kernel
theorem dX2_shortOnes_37 : decode cX2_shortOnes 37 = .ok (.iinc 4 1, 3) := by decide +kernel
theorem dX2_shortOnes_40 : decode cX2_shortOnes 40 = .ok (.goto (-35), 3) := by decide +kernel
theorem dX2_shortOnes_43 : decode cX2_shortOnes 43 = .ok (.iload_n 3, 1) := by decide +kernel
theorem dX2_shortOnes_44 : decode cX2_shortOnes 44 = .ok (.ireturn, 1) := by decide +kernel
theorem dX2_longOnes_0 : decode cX2_longOnes 0 = .ok (.iconst 0, 1) := by decide +kernel
theorem dX2_longOnes_1 : decode cX2_longOnes 1 = .ok (.istore_n 2, 1) := by decide +kernel
theorem dX2_longOnes_2 : decode cX2_longOnes 2 = .ok (.iconst 0, 1) := by decide +kernel
theorem dX2_longOnes_3 : decode cX2_longOnes 3 = .ok (.istore_n 3, 1) := by decide +kernel
theorem dX2_longOnes_4 : decode cX2_longOnes 4 = .ok (.iload_n 3, 1) := by decide +kernel
theorem dX2_longOnes_5 : decode cX2_longOnes 5 = .ok (.aload_n 0, 1) := by decide +kernel
theorem dX2_longOnes_6 : decode cX2_longOnes 6 = .ok (.getfield 24, 3) := by decide +kernel
theorem dX2_longOnes_9 : decode cX2_longOnes 9 = .ok (.if_icmp .ge 30, 3) := by decide +kernel
theorem dX2_longOnes_12 : decode cX2_longOnes 12 = .ok (.aload_n 0, 1) := by decide +kernel
theorem dX2_longOnes_13 : decode cX2_longOnes 13 = .ok (.iload_n 3, 1) := by decide +kernel
theorem dX2_longOnes_14 : decode cX2_longOnes 14 = .ok (.invokevirtual 49, 3) := by decide +kernel
theorem dX2_longOnes_17 : decode cX2_longOnes 17 = .ok (.ifCond .eq 16, 3) := by decide +kernel
theorem dX2_longOnes_20 : decode cX2_longOnes 20 = .ok (.aload_n 0, 1) := by decide +kernel
theorem dX2_longOnes_21 : decode cX2_longOnes 21 = .ok (.iload_n 3, 1) := by decide +kernel
theorem dX2_longOnes_22 : decode cX2_longOnes 22 = .ok (.iload_n 1, 1) := by decide +kernel
theorem dX2_longOnes_23 : decode cX2_longOnes 23 = .ok (.iload_n 1, 1) := by decide +kernel
theorem dX2_longOnes_24 : decode cX2_longOnes 24 = .ok (.invokevirtual 53, 3) := by decide +kernel
theorem dX2_longOnes_27 : decode cX2_longOnes 27 = .ok (.ifCond .eq 6, 3) := by decide +kernel
theorem dX2_longOnes_30 : decode cX2_longOnes 30 = .ok (.iinc 2 1, 3) := by decide +kernel
theorem dX2_longOnes_33 : decode cX2_longOnes 33 = .ok (.iinc 3 1, 3) := by decide +kernel
theorem dX2_longOnes_36 : decode cX2_longOnes 36 = .ok (.goto (-32), 3) := by decide +kernel
theorem dX2_longOnes_39 : decode cX2_longOnes 39 = .ok (.iload_n 2, 1) := by decide +kernel
theorem dX2_longOnes_40 : decode cX2_longOnes 40 = .ok (.ireturn, 1) := by decide +kernel
theorem dX2_allLongOnes_0 : decode cX2_allLongOnes 0 = .ok (.iconst 0, 1) := by decide +kernel
theorem dX2_allLongOnes_1 : decode cX2_allLongOnes 1 = .ok (.istore_n 1, 1) := by decide +kernel
theorem dX2_allLongOnes_2 : decode cX2_allLongOnes 2 = .ok (.iconst 0, 1) := by decide +kernel
theorem dX2_allLongOnes_3 : decode cX2_allLongOnes 3 = .ok (.istore_n 2, 1) := by decide +kernel
theorem dX2_allLongOnes_4 : decode cX2_allLongOnes 4 = .ok (.iload_n 2, 1) := by decide +kernel
theorem dX2_allLongOnes_5 : decode cX2_allLongOnes 5 = .ok (.aload_n 0, 1) := by decide +kernel
theorem dX2_allLongOnes_6 : decode cX2_allLongOnes 6 = .ok (.getfield 24, 3) := by decide +kernel
theorem dX2_allLongOnes_9 : decode cX2_allLongOnes 9 = .ok (.if_icmp .ge 20, 3) := by decide +kernel
theorem dX2_allLongOnes_12 : decode cX2_allLongOnes 12 = .ok (.aload_n 0, 1) := by decide +kernel
theorem dX2_allLongOnes_13 : decode cX2_allLongOnes 13 = .ok (.iload_n 2, 1) := by decide +kernel
theorem dX2_allLongOnes_14 : decode cX2_allLongOnes 14 = .ok (.invokevirtual 49, 3) := by decide +kernel
theorem dX2_allLongOnes_17 : decode cX2_allLongOnes 17 = .ok (.ifCond .eq 6, 3) := by decide +kernel
theorem dX2_allLongOnes_20 : decode cX2_allLongOnes 20 = .ok (.iinc 1 1, 3) := by decide +kernel
theorem dX2_allLongOnes_23 : decode cX2_allLongOnes 23 = .ok (.iinc 2 1, 3) := by decide +kernel
theorem dX2_allLongOnes_26 : decode cX2_allLongOnes 26 = .ok (.goto (-22), 3) := by decide +kernel
theorem dX2_allLongOnes_29 : decode cX2_allLongOnes 29 = .ok (.iload_n 1, 1) := by decide +kernel
theorem dX2_allLongOnes_30 : decode cX2_allLongOnes 30 = .ok (.ireturn, 1) := by decide +kernel
theorem dX2_allOnPage_0 : decode cX2_allOnPage 0 = .ok (.iconst 0, 1) := by decide +kernel
theorem dX2_allOnPage_1 : decode cX2_allOnPage 1 = .ok (.istore_n 1, 1) := by decide +kernel
theorem dX2_allOnPage_2 : decode cX2_allOnPage 2 = .ok (.iconst 0, 1) := by decide +kernel
theorem dX2_allOnPage_3 : decode cX2_allOnPage 3 = .ok (.istore_n 2, 1) := by decide +kernel
theorem dX2_allOnPage_4 : decode cX2_allOnPage 4 = .ok (.iload_n 2, 1) := by decide +kernel
theorem dX2_allOnPage_5 : decode cX2_allOnPage 5 = .ok (.aload_n 0, 1) := by decide +kernel
theorem dX2_allOnPage_6 : decode cX2_allOnPage 6 = .ok (.getfield 24, 3) := by decide +kernel
theorem dX2_allOnPage_9 : decode cX2_allOnPage 9 = .ok (.if_icmp .ge 28, 3) := by decide +kernel
theorem dX2_allOnPage_12 : decode cX2_allOnPage 12 = .ok (.aload_n 0, 1) := by decide +kernel
theorem dX2_allOnPage_13 : decode cX2_allOnPage 13 = .ok (.iload_n 2, 1) := by decide +kernel
theorem dX2_allOnPage_14 : decode cX2_allOnPage 14 = .ok (.aload_n 0, 1) := by decide +kernel
theorem dX2_allOnPage_15 : decode cX2_allOnPage 15 = .ok (.getfield 9, 3) := by decide +kernel
theorem dX2_allOnPage_18 : decode cX2_allOnPage 18 = .ok (.aload_n 0, 1) := by decide +kernel
theorem dX2_allOnPage_19 : decode cX2_allOnPage 19 = .ok (.getfield 15, 3) := by decide +kernel
theorem dX2_allOnPage_22 : decode cX2_allOnPage 22 = .ok (.invokevirtual 53, 3) := by decide +kernel
theorem dX2_allOnPage_25 : decode cX2_allOnPage 25 = .ok (.ifCond .eq 6, 3) := by decide +kernel
theorem dX2_allOnPage_28 : decode cX2_allOnPage 28 = .ok (.iinc 1 1, 3) := by decide +kernel
theorem dX2_allOnPage_31 : decode cX2_allOnPage 31 = .ok (.iinc 2 1, 3) := by decide +kernel
theorem dX2_allOnPage_34 : decode cX2_allOnPage 34 = .ok (.goto (-30), 3) := by decide +kernel
theorem dX2_allOnPage_37 : decode cX2_allOnPage 37 = .ok (.iload_n 1, 1) := by decide +kernel
theorem dX2_allOnPage_38 : decode cX2_allOnPage 38 = .ok (.ireturn, 1) := by decide +kernel
theorem dX3_init_0 : decode cX3_init 0 = .ok (.aload_n 0, 1) := by decide +kernel
theorem dX3_init_1 : decode cX3_init 1 = .ok (.invokespecial 3, 3) := by decide +kernel
theorem dX3_init_4 : decode cX3_init 4 = .ok (.aload_n 0, 1) := by decide +kernel
theorem dX3_init_5 : decode cX3_init 5 = .ok (.bipush 100, 2) := by decide +kernel
theorem dX3_init_7 : decode cX3_init 7 = .ok (.newarray .int, 2) := by decide +kernel
theorem dX3_init_9 : decode cX3_init 9 = .ok (.putfield 9, 3) := by decide +kernel
theorem dX3_init_12 : decode cX3_init 12 = .ok (.aload_n 0, 1) := by decide +kernel
theorem dX3_init_13 : decode cX3_init 13 = .ok (.iconst 0, 1) := by decide +kernel
theorem dX3_init_14 : decode cX3_init 14 = .ok (.putfield 15, 3) := by decide +kernel
theorem dX3_init_17 : decode cX3_init 17 = .ok (.aload_n 0, 1) := by decide +kernel
theorem dX3_init_18 : decode cX3_init 18 = .ok (.iconst 0, 1) := by decide +kernel
theorem dX3_init_19 : decode cX3_init 19 = .ok (.putfield 19, 3) := by decide +kernel
theorem dX3_init_22 : decode cX3_init 22 = .ok (.aload_n 0, 1) := by decide +kernel
theorem dX3_init_23 : decode cX3_init 23 = .ok (.iconst (-1), 1) := by decide +kernel
theorem dX3_init_24 : decode cX3_init 24 = .ok (.putfield 22, 3) := by decide +kernel
theorem dX3_init_27 : decode cX3_init 27 = .ok (.return_, 1) := by decide +kernel
theorem dX3_append_0 : decode cX3_append 0 = .ok (.aload_n 0, 1) := by decide +kernel
theorem dX3_append_1 : decode cX3_append 1 = .ok (.getfield 15, 3) := by decide +kernel
theorem dX3_append_4 : decode cX3_append 4 = .ok (.bipush 100, 2) := by decide +kernel
theorem dX3_append_6 : decode cX3_append 6 = .ok (.if_icmp .ge 23, 3) := by decide +kernel
theorem dX3_append_9 : decode cX3_append 9 = .ok (.aload_n 0, 1) := by decide +kernel
theorem dX3_append_10 : decode cX3_append 10 = .ok (.getfield 9, 3) := by decide +kernel
theorem dX3_append_13 : decode cX3_append 13 = .ok (.aload_n 0, 1) := by decide +kernel
theorem dX3_append_14 : decode cX3_append 14 = .ok (.getfield 15, 3) := by decide +kernel
theorem dX3_append_17 : decode cX3_append 17 = .ok (.iload_n 1, 1) := by decide +kernel
theorem dX3_append_18 : decode cX3_append 18 = .ok (.iastore, 1) := by decide +kernel
theorem dX3_append_19 : decode cX3_append 19 = .ok (.aload_n 0, 1) := by decide +kernel
theorem dX3_append_20 : decode cX3_append 20 = .ok (.dup, 1) := by decide +kernel
theorem dX3_append_21 : decode cX3_append 21 = .ok (.getfield 15, 3) := by decide +kernel
theorem dX3_append_24 : decode cX3_append 24 = .ok (.iconst 1, 1) := by decide +kernel
theorem dX3_append_25 : decode cX3_append 25 = .ok (.iadd, 1) := by decide +kernel
theorem dX3_append_26 : decode cX3_append 26 = .ok (.putfield 15, 3) := by decide +kernel
theorem dX3_append_29 : decode cX3_append 29 = .ok (.return_, 1) := by decide +kernel
theorem dX3_read_0 : decode cX3_read 0 = .ok (.aload_n 0, 1) := by decide +kernel
theorem dX3_read_1 : decode cX3_read 1 = .ok (.iconst 0, 1) := by decide +kernel
theorem dX3_read_2 : decode cX3_read 2 = .ok (.putfield 19, 3) := by decide +kernel
theorem dX3_read_5 : decode cX3_read 5 = .ok (.aload_n 0, 1) := by decide +kernel
theorem dX3_read_6 : decode cX3_read 6 = .ok (.iconst (-1), 1) := by decide +kernel
theorem dX3_read_7 : decode cX3_read 7 = .ok (.putfield 22, 3) := by decide +kernel
theorem dX3_read_10 : decode cX3_read 10 = .ok (.aload_n 1, 1) := by decide +kernel
theorem dX3_read_11 : decode cX3_read 11 = .ok (.iconst 0, 1) := by decide +kernel
theorem dX3_read_12 : decode cX3_read 12 = .ok (.putfield 25, 3) := by decide +kernel
theorem dX3_read_15 : decode cX3_read 15 = .ok (.iconst 0, 1) := by decide +kernel
theorem dX3_read_16 : decode cX3_read 16 = .ok (.istore_n 2, 1) := by decide +kernel
theorem dX3_read_17 : decode cX3_read 17 = .ok (.iload_n 2, 1) := by decide +kernel
theorem dX3_read_18 : decode cX3_read 18 = .ok (.bipush 24, 2) := by decide +kernel
theorem dX3_read_20 : decode cX3_read 20 = .ok (.if_icmp .gt 50, 3) := by decide +kernel
theorem dX3_read_23 : decode cX3_read 23 = .ok (.aload_n 0, 1) := by decide +kernel
theorem dX3_read_24 : decode cX3_read 24 = .ok (.getfield 19, 3) := by decide +kernel
theorem dX3_read_27 : decode cX3_read 27 = .ok (.aload_n 0, 1) := by decide +kernel
theorem dX3_read_28 : decode cX3_read 28 = .ok (.getfield 15, 3) := by decide +kernel
theorem dX3_read_31 : decode cX3_read 31 = .ok (.if_icmp .ge 39, 3) := by decide +kernel
theorem dX3_read_34 : decode cX3_read 34 = .ok (.aload_n 0, 1) := by decide +kernel
theorem dX3_read_35 : decode cX3_read 35 = .ok (.getfield 22, 3) := by decide +kernel
theorem dX3_read_38 : decode cX3_read 38 = .ok (.iconst (-1), 1) := by decide +kernel
theorem dX3_read_39 : decode cX3_read 39 = .ok (.if_icmp .ne 31, 3) := by decide +kernel
theorem dX3_read_42 : decode cX3_read 42 = .ok (.iload_n 2, 1) := by decide +kernel
theorem dX3_read_43 : decode cX3_read 43 = .ok (.bipush 24, 2) := by decide +kernel
theorem dX3_read_45 : decode cX3_read 45 = .ok (.if_icmp .ne 14, 3) := by decide +kernel
theorem dX3_read_48 : decode cX3_read 48 = .ok (.aload_n 0, 1) := by decide +kernel
theorem dX3_read_49 : decode cX3_read 49 = .ok (.aload_n 0, 1) := by decide +kernel
theorem dX3_read_50 : decode cX3_read 50 = .ok (.getfield 19, 3) := by decide +kernel
theorem dX3_read_53 : decode cX3_read 53 = .ok (.putfield 22, 3) := by decide +kernel
theorem dX3_read_56 : decode cX3_read 56 = .ok (.goto 8, 3) := by decide +kernel
theorem dX3_read_59 : decode cX3_read 59 = .ok (.aload_n 0, 1) := by decide +kernel
theorem dX3_read_60 : decode cX3_read 60 = .ok (.aload_n 1, 1) := by decide +kernel
theorem dX3_read_61 : decode cX3_read 61 = .ok (.invokevirtual 30, 3) := by decide +kernel
theorem dX3_read_64 : decode cX3_read 64 = .ok (.iinc 2 1, 3) := by decide +kernel
theorem dX3_read_67 : decode cX3_read 67 = .ok (.goto (-50), 3) := by decide +kernel
theorem dX3_read_70 : decode cX3_read 70 = .ok (.aload_n 0, 1) := by decide +kernel
theorem dX3_read_71 : decode cX3_read 71 = .ok (.getfield 22, 3) := by decide +kernel
theorem dX3_read_74 : decode cX3_read 74 = .ok (.ireturn, 1) := by decide +kernel
theorem dX3_readEntry_0 : decode cX3_readEntry 0 = .ok (.aload_n 0, 1) := by decide +kernel
theorem dX3_readEntry_1 : decode cX3_readEntry 1 = .ok (.invokevirtual 34, 3) := by decide +kernel
theorem dX3_readEntry_4 : decode cX3_readEntry 4 = .ok (.istore_n 2, 1) := by decide +kernel
theorem dX3_readEntry_5 : decode cX3_readEntry 5 = .ok (.iload_n 2, 1) := by decide +kernel
theorem dX3_readEntry_6 : decode cX3_readEntry 6 = .ok (.istore_n 3, 1) := by decide +kernel
theorem dX3_readEntry_7 : decode cX3_readEntry 7 = .ok (.aload_n 0, 1) := by decide +kernel
theorem dX3_readEntry_8 : decode cX3_readEntry 8 = .ok (.bipush 45, 2) := by decide +kernel
theorem dX3_readEntry_10 : decode cX3_readEntry 10 = .ok (.invokevirtual 38, 3) := by decide +kernel
theorem dX3_readEntry_13 : decode cX3_readEntry 13 = .ok (.ifCond .eq 22, 3) := by decide +kernel
theorem dX3_readEntry_16 : decode cX3_readEntry 16 = .ok (.aload_n 0, 1) := by decide +kernel
theorem dX3_readEntry_17 : decode cX3_readEntry 17 = .ok (.invokevirtual 34, 3) := by decide +kernel
theorem dX3_readEntry_20 : decode cX3_readEntry 20 = .ok (.istore_n 3, 1) := by decide +kernel
theorem dX3_readEntry_21 : decode cX3_readEntry 21 = .ok (.aload_n 0, 1) := by decide +kernel
theorem dX3_readEntry_22 : decode cX3_readEntry 22 = .ok (.iload_n 3, 1) := by decide +kernel
theorem dX3_readEntry_23 : decode cX3_readEntry 23 = .ok (.iload_n 2, 1) := by decide +kernel
theorem dX3_readEntry_24 : decode cX3_readEntry 24 = .ok (.if_icmp .ge 7, 3) := by decide +kernel
theorem dX3_readEntry_27 : decode cX3_readEntry 27 = .ok (.iconst 1, 1) := by decide +kernel
theorem dX3_readEntry_28 : decode cX3_readEntry 28 = .ok (.goto 4, 3) := by decide +kernel
theorem dX3_readEntry_31 : decode cX3_readEntry 31 = .ok (.iconst 0, 1) := by decide +kernel
theorem dX3_readEntry_32 : decode cX3_readEntry 32 = .ok (.invokevirtual 42, 3) := by decide +kernel
theorem dX3_readEntry_35 : decode cX3_readEntry 35 = .ok (.bipush (-9), 2) := by decide +kernel
theorem dX3_readEntry_37 : decode cX3_readEntry 37 = .ok (.istore 4, 2) := by decide +kernel
theorem dX3_readEntry_39 : decode cX3_readEntry 39 = .ok (.aload_n 0, 1) := by decide +kernel
theorem dX3_readEntry_40 : decode cX3_readEntry 40 = .ok (.bipush 64, 2) := by decide +kernel
theorem dX3_readEntry_42 : decode cX3_readEntry 42 = .ok (.invokevirtual 38, 3) := by decide +kernel
theorem dX3_readEntry_45 : decode cX3_readEntry 45 = .ok (.ifCond .eq 9, 3) := by decide +kernel
theorem dX3_readEntry_48 : decode cX3_readEntry 48 = .ok (.aload_n 0, 1) := by decide +kernel
theorem dX3_readEntry_49 : decode cX3_readEntry 49 = .ok (.invokevirtual 46, 3) := by decide +kernel
theorem dX3_readEntry_52 : decode cX3_readEntry 52 = .ok (.istore 4, 2) := by decide +kernel
theorem dX3_readEntry_54 : decode cX3_readEntry 54 = .ok (.iconst 0, 1) := by decide +kernel
theorem dX3_readEntry_55 : decode cX3_readEntry 55 = .ok (.istore 5, 2) := by decide +kernel
theorem dX3_readEntry_57 : decode cX3_readEntry 57 = .ok (.aload_n 0, 1) := by decide +kernel
theorem dX3_readEntry_58 : decode cX3_readEntry 58 = .ok (.bipush 33, 2) := by decide +kernel
theorem dX3_readEntry_60 : decode cX3_readEntry 60 = .ok (.invokevirtual 38, 3) := by decide +kernel
theorem dX3_readEntry_63 : decode cX3_readEntry 63 = .ok (.ifCond .eq 9, 3) := by decide +kernel
theorem dX3_readEntry_66 : decode cX3_readEntry 66 = .ok (.aload_n 0, 1) := by decide +kernel
theorem dX3_readEntry_67 : decode cX3_readEntry 67 = .ok (.invokevirtual 49, 3) := by decide +kernel
theorem dX3_readEntry_70 : decode cX3_readEntry 70 = .ok (.istore 5, 2) := by decide +kernel
theorem dX3_readEntry_72 : decode cX3_readEntry 72 = .ok (.aload_n 0, 1) := by decide +kernel
theorem dX3_readEntry_73 : decode cX3_readEntry 73 = .ok (.bipush 59, 2) := by decide +kernel
theorem dX3_readEntry_75 : decode cX3_readEntry 75 = .ok (.invokevirtual 52, 3) := by decide +kernel
theorem dX3_readEntry_78 : decode cX3_readEntry 78 = .ok (.aload_n 0, 1) := by decide +kernel
theorem dX3_readEntry_79 : decode cX3_readEntry 79 = .ok (.getfield 22, 3) := by decide +kernel
theorem dX3_readEntry_82 : decode cX3_readEntry 82 = .ok (.iconst (-1), 1) := by decide +kernel
theorem dX3_readEntry_83 : decode cX3_readEntry 83 = .ok (.if_icmp .ne 13, 3) := by decide +kernel
theorem dX3_readEntry_86 : decode cX3_readEntry 86 = .ok (.aload_n 1, 1) := by decide +kernel
theorem dX3_readEntry_87 : decode cX3_readEntry 87 = .ok (.iload_n 2, 1) := by decide +kernel
theorem dX3_readEntry_88 : decode cX3_readEntry 88 = .ok (.iload_n 3, 1) := by decide +kernel
theorem dX3_readEntry_89 : decode cX3_readEntry 89 = .ok (.iload 4, 2) := by decide +kernel
theorem dX3_readEntry_91 : decode cX3_readEntry 91 = .ok (.iload 5, 2) := by decide +kernel
theorem dX3_readEntry_93 : decode cX3_readEntry 93 = .ok (.invokevirtual 56, 3) := by decide +kernel
theorem dX3_readEntry_96 : decode cX3_readEntry 96 = .ok (.return_, 1) := by decide +kernel
theorem dX3_readDay_0 : decode cX3_readDay 0 = .ok (.aload_n 0, 1) := by decide +kernel
theorem dX3_readDay_1 : decode cX3_readDay 1 = .ok (.invokevirtual 49, 3) := by decide +kernel
theorem dX3_readDay_4 : decode cX3_readDay 4 = .ok (.istore_n 1, 1) := by decide +kernel
theorem dX3_readDay_5 : decode cX3_readDay 5 = .ok (.iconst 1, 1) := by decide +kernel
theorem dX3_readDay_6 : decode cX3_readDay 6 = .ok (.istore_n 2, 1) := by decide +kernel
theorem dX3_readDay_7 : decode cX3_readDay 7 = .ok (.iload_n 2, 1) := by decide +kernel
theorem dX3_readDay_8 : decode cX3_readDay 8 = .ok (.iconst 3, 1) := by decide +kernel
theorem dX3_readDay_9 : decode cX3_readDay 9 = .ok (.if_icmp .ge 26, 3) := by decide +kernel
theorem dX3_readDay_12 : decode cX3_readDay 12 = .ok (.aload_n 0, 1) := by decide +kernel
theorem dX3_readDay_13 : decode cX3_readDay 13 = .ok (.invokevirtual 60, 3) := by decide +kernel
theorem dX3_readDay_16 : decode cX3_readDay 16 = .ok (.ifCond .eq 19, 3) := by decide +kernel
theorem dX3_readDay_19 : decode cX3_readDay 19 = .ok (.bipush 10, 2) := by decide +kernel
theorem dX3_readDay_21 : decode cX3_readDay 21 = .ok (.iload_n 1, 1) := by decide +kernel
theorem dX3_readDay_22 : decode cX3_readDay 22 = .ok (.imul, 1) := by decide +kernel
theorem dX3_readDay_23 : decode cX3_readDay 23 = .ok (.aload_n 0, 1) := by decide +kernel
theorem dX3_readDay_24 : decode cX3_readDay 24 = .ok (.invokevirtual 49, 3) := by decide +kernel
theorem dX3_readDay_27 : decode cX3_readDay 27 = .ok (.iadd, 1) := by decide +kernel
theorem dX3_readDay_28 : decode cX3_readDay 28 = .ok (.istore_n 1, 1) := by decide +kernel
theorem dX3_readDay_29 : decode cX3_readDay 29 = .ok (.iinc 2 1, 3) := by decide +kernel
theorem dX3_readDay_32 : decode cX3_readDay 32 = .ok (.goto (-25), 3) := by decide +kernel
theorem dX3_readDay_35 : decode cX3_readDay 35 = .ok (.aload_n 0, 1) := by decide +kernel
theorem dX3_readDay_36 : decode cX3_readDay 36 = .ok (.invokevirtual 60, 3) := by decide +kernel
theorem dX3_readDay_39 : decode cX3_readDay 39 = .ok (.ifCond .eq 11, 3) := by decide +kernel
theorem dX3_readDay_42 : decode cX3_readDay 42 = .ok (.aload_n 0, 1) := by decide +kernel
theorem dX3_readDay_43 : decode cX3_readDay 43 = .ok (.aload_n 0, 1) := by decide +kernel
theorem dX3_readDay_44 : decode cX3_readDay 44 = .ok (.getfield 19, 3) := by decide +kernel
theorem dX3_readDay_47 : decode cX3_readDay 47 = .ok (.putfield 22, 3) := by decide +kernel
theorem dX3_readDay_50 : decode cX3_readDay 50 = .ok (.iload_n 1, 1) := by decide +kernel
theorem dX3_readDay_51 : decode cX3_readDay 51 = .ok (.ireturn, 1) := by decide +kernel
theorem dX3_readTime_0 : decode cX3_readTime 0 = .ok (.aload_n 0, 1) := by decide +kernel
theorem dX3_readTime_1 : decode cX3_readTime 1 = .ok (.bipush 23, 2) := by decide +kernel
theorem dX3_readTime_3 : decode cX3_readTime 3 = .ok (.invokevirtual 64, 3) := by decide +kernel
theorem dX3_readTime_6 : decode cX3_readTime 6 = .ok (.istore_n 1, 1) := by decide +kernel
theorem dX3_readTime_7 : decode cX3_readTime 7 = .ok (.aload_n 0, 1) := by decide +kernel
theorem dX3_readTime_8 : decode cX3_readTime 8 = .ok (.bipush 58, 2) := by decide +kernel
theorem dX3_readTime_10 : decode cX3_readTime 10 = .ok (.invokevirtual 52, 3) := by decide +kernel
theorem dX3_readTime_13 : decode cX3_readTime 13 = .ok (.aload_n 0, 1) := by decide +kernel
theorem dX3_readTime_14 : decode cX3_readTime 14 = .ok (.bipush 59, 2) := by decide +kernel
theorem dX3_readTime_16 : decode cX3_readTime 16 = .ok (.invokevirtual 64, 3) := by decide +kernel
theorem dX3_readTime_19 : decode cX3_readTime 19 = .ok (.istore_n 2, 1) := by decide +kernel
theorem dX3_readTime_20 : decode cX3_readTime 20 = .ok (.bipush 60, 2) := by decide +kernel
theorem dX3_readTime_22 : decode cX3_readTime 22 = .ok (.iload_n 1, 1) := by decide +kernel
theorem dX3_readTime_23 : decode cX3_readTime 23 = .ok (.imul, 1) := by decide +kernel
theorem dX3_readTime_24 : decode cX3_readTime 24 = .ok (.iload_n 2, 1) := by decide +kernel
theorem dX3_readTime_25 : decode cX3_readTime 25 = .ok (.iadd, 1) := by decide +kernel
theorem dX3_readTime_26 : decode cX3_readTime 26 = .ok (.ireturn, 1) := by decide +kernel
theorem dX3_readTwoDigits_0 : decode cX3_readTwoDigits 0 = .ok (.aload_n 0, 1) := by decide +kernel
theorem dX3_readTwoDigits_1 : decode cX3_readTwoDigits 1 = .ok (.invokevirtual 49, 3) := by decide +kernel
theorem dX3_readTwoDigits_4 : decode cX3_readTwoDigits 4 = .ok (.istore_n 2, 1) := by decide +kernel
theorem dX3_readTwoDigits_5 : decode cX3_readTwoDigits 5 = .ok (.aload_n 0, 1) := by decide +kernel
theorem dX3_readTwoDigits_6 : decode cX3_readTwoDigits 6 = .ok (.invokevirtual 49, 3) := by decide +kernel
theorem dX3_readTwoDigits_9 : decode cX3_readTwoDigits 9 = .ok (.istore_n 3, 1) := by decide +kernel
theorem dX3_readTwoDigits_10 : decode cX3_readTwoDigits 10 = .ok (.bipush 10, 2) := by decide +kernel
theorem dX3_readTwoDigits_12 : decode cX3_readTwoDigits 12 = .ok (.iload_n 2, 1) := by decide +kernel
theorem dX3_readTwoDigits_13 : decode cX3_readTwoDigits 13 = .ok (.imul, 1) := by decide +kernel
theorem dX3_readTwoDigits_14 : decode cX3_readTwoDigits 14 = .ok (.iload_n 3, 1) := by decide +kernel
theorem dX3_readTwoDigits_15 : decode cX3_readTwoDigits 15 = .ok (.iadd, 1) := by decide +kernel
theorem dX3_readTwoDigits_16 : decode cX3_readTwoDigits 16 = .ok (.istore 4, 2) := by decide +kernel
theorem dX3_readTwoDigits_18 : decode cX3_readTwoDigits 18 = .ok (.aload_n 0, 1) := by decide +kernel
theorem dX3_readTwoDigits_19 : decode cX3_readTwoDigits 19 = .ok (.iload 4, 2) := by decide +kernel
theorem dX3_readTwoDigits_21 : decode cX3_readTwoDigits 21 = .ok (.iload_n 1, 1) := by decide +kernel
theorem dX3_readTwoDigits_22 : decode cX3_readTwoDigits 22 = .ok (.if_icmp .le 7, 3) := by decide +kernel
theorem dX3_readTwoDigits_25 : decode cX3_readTwoDigits 25 = .ok (.iconst 1, 1) := by decide +kernel
theorem dX3_readTwoDigits_26 : decode cX3_readTwoDigits 26 = .ok (.goto 4, 3) := by decide +kernel
theorem dX3_readTwoDigits_29 : decode cX3_readTwoDigits 29 = .ok (.iconst 0, 1) := by decide +kernel
theorem dX3_readTwoDigits_30 : decode cX3_readTwoDigits 30 = .ok (.invokevirtual 42, 3) := by decide +kernel
theorem dX3_readTwoDigits_33 : decode cX3_readTwoDigits 33 = .ok (.iload 4, 2) := by decide +kernel
theorem dX3_readTwoDigits_35 : decode cX3_readTwoDigits 35 = .ok (.ireturn, 1) := by decide +kernel
theorem dX3_readDigit_0 : decode cX3_readDigit 0 = .ok (.aload_n 0, 1) := by decide +kernel
theorem dX3_readDigit_1 : decode cX3_readDigit 1 = .ok (.invokevirtual 60, 3) := by decide +kernel
theorem dX3_readDigit_4 : decode cX3_readDigit 4 = .ok (.ifCond .eq 28, 3) := by decide +kernel
theorem dX3_readDigit_7 : decode cX3_readDigit 7 = .ok (.aload_n 0, 1) := by decide +kernel
theorem dX3_readDigit_8 : decode cX3_readDigit 8 = .ok (.dup, 1) := by decide +kernel
theorem dX3_readDigit_9 : decode cX3_readDigit 9 = .ok (.getfield 19, 3) := by decide +kernel
theorem dX3_readDigit_12 : decode cX3_readDigit 12 = .ok (.iconst 1, 1) := by decide +kernel
theorem dX3_readDigit_13 : decode cX3_readDigit 13 = .ok (.iadd, 1) := by decide +kernel
theorem dX3_readDigit_14 : decode cX3_readDigit 14 = .ok (.putfield 19, 3) := by decide +kernel
theorem dX3_readDigit_17 : decode cX3_readDigit 17 = .ok (.aload_n 0, 1) := by decide +kernel
theorem dX3_readDigit_18 : decode cX3_readDigit 18 = .ok (.getfield 9, 3) := by decide +kernel
theorem dX3_readDigit_21 : decode cX3_readDigit 21 = .ok (.aload_n 0, 1) := by decide +kernel
theorem dX3_readDigit_22 : decode cX3_readDigit 22 = .ok (.getfield 19, 3) := by decide +kernel
theorem dX3_readDigit_25 : decode cX3_readDigit 25 = .ok (.iconst 1, 1) := by decide +kernel
theorem dX3_readDigit_26 : decode cX3_readDigit 26 = .ok (.isub, 1) := by decide +kernel
theorem dX3_readDigit_27 : decode cX3_readDigit 27 = .ok (.iaload, 1) := by decide +kernel
theorem dX3_readDigit_28 : decode cX3_readDigit 28 = .ok (.bipush 48, 2) := by decide +kernel
theorem dX3_readDigit_30 : decode cX3_readDigit 30 = .ok (.isub, 1) := by decide +kernel
theorem dX3_readDigit_31 : decode cX3_readDigit 31 = .ok (.ireturn, 1) := by decide +kernel
theorem dX3_readDigit_32 : decode cX3_readDigit 32 = .ok (.aload_n 0, 1) := by decide +kernel
theorem dX3_readDigit_33 : decode cX3_readDigit 33 = .ok (.invokevirtual 68, 3) := by decide +kernel
theorem dX3_readDigit_36 : decode cX3_readDigit 36 = .ok (.iconst 0, 1) := by decide +kernel
theorem dX3_readDigit_37 : decode cX3_readDigit 37 = .ok (.ireturn, 1) := by decide +kernel
theorem dX3_require_0 : decode cX3_require 0 = .ok (.aload_n 0, 1) := by decide +kernel
theorem dX3_require_1 : decode cX3_require 1 = .ok (.iload_n 1, 1) := by decide +kernel
theorem dX3_require_2 : decode cX3_require 2 = .ok (.invokevirtual 38, 3) := by decide +kernel
theorem dX3_require_5 : decode cX3_require 5 = .ok (.ifCond .ne 7, 3) := by decide +kernel
theorem dX3_require_8 : decode cX3_require 8 = .ok (.aload_n 0, 1) := by decide +kernel
theorem dX3_require_9 : decode cX3_require 9 = .ok (.invokevirtual 68, 3) := by decide +kernel
theorem dX3_require_12 : decode cX3_require 12 = .ok (.return_, 1) := by decide +kernel
theorem dX3_passes_0 : decode cX3_passes 0 = .ok (.aload_n 0, 1) := by decide +kernel
theorem dX3_passes_1 : decode cX3_passes 1 = .ok (.getfield 22, 3) := by decide +kernel
theorem dX3_passes_4 : decode cX3_passes 4 = .ok (.iconst (-1), 1) := by decide +kernel
theorem dX3_passes_5 : decode cX3_passes 5 = .ok (.if_icmp .ne 31, 3) := by decide +kernel
theorem dX3_passes_8 : decode cX3_passes 8 = .ok (.aload_n 0, 1) := by decide +kernel
theorem dX3_passes_9 : decode cX3_passes 9 = .ok (.getfield 19, 3) := by decide +kernel
theorem dX3_passes_12 : decode cX3_passes 12 = .ok (.aload_n 0, 1) := by decide +kernel
theorem dX3_passes_13 : decode cX3_passes 13 = .ok (.getfield 15, 3) := by decide +kernel
theorem dX3_passes_16 : decode cX3_passes 16 = .ok (.if_icmp .ge 20, 3) := by decide +kernel
theorem dX3_passes_19 : decode cX3_passes 19 = .ok (.aload_n 0, 1) := by decide +kernel
theorem dX3_passes_20 : decode cX3_passes 20 = .ok (.getfield 9, 3) := by decide +kernel
theorem dX3_passes_23 : decode cX3_passes 23 = .ok (.aload_n 0, 1) := by decide +kernel
theorem dX3_passes_24 : decode cX3_passes 24 = .ok (.getfield 19, 3) := by decide +kernel
theorem dX3_passes_27 : decode cX3_passes 27 = .ok (.iaload, 1) := by decide +kernel
theorem dX3_passes_28 : decode cX3_passes 28 = .ok (.iload_n 1, 1) := by decide +kernel
theorem dX3_passes_29 : decode cX3_passes 29 = .ok (.if_icmp .ne 7, 3) := by decide +kernel
theorem dX3_passes_32 : decode cX3_passes 32 = .ok (.iconst 1, 1) := by decide +kernel
theorem dX3_passes_33 : decode cX3_passes 33 = .ok (.goto 4, 3) := by decide +kernel
theorem dX3_passes_36 : decode cX3_passes 36 = .ok (.iconst 0, 1) := by decide +kernel
theorem dX3_passes_37 : decode cX3_passes 37 = .ok (.istore_n 2, 1) := by decide +kernel
theorem dX3_passes_38 : decode cX3_passes 38 = .ok (.iload_n 2, 1) := by decide +kernel
theorem dX3_passes_39 : decode cX3_passes 39 = .ok (.ifCond .eq 13, 3) := by decide +kernel
theorem dX3_passes_42 : decode cX3_passes 42 = .ok (.aload_n 0, 1) := by decide +kernel
theorem dX3_passes_43 : decode cX3_passes 43 = .ok (.dup, 1) := by decide +kernel
theorem dX3_passes_44 : decode cX3_passes 44 = .ok (.getfield 19, 3) := by decide +kernel
theorem dX3_passes_47 : decode cX3_passes 47 = .ok (.iconst 1, 1) := by decide +kernel
theorem dX3_passes_48 : decode cX3_passes 48 = .ok (.iadd, 1) := by decide +kernel
theorem dX3_passes_49 : decode cX3_passes 49 = .ok (.putfield 19, 3) := by decide +kernel
theorem dX3_passes_52 : decode cX3_passes 52 = .ok (.iload_n 2, 1) := by decide +kernel
theorem dX3_passes_53 : decode cX3_passes 53 = .ok (.ireturn, 1) := by decide +kernel
theorem dX3_isAtDigit_0 : decode cX3_isAtDigit 0 = .ok (.aload_n 0, 1) := by decide +kernel
theorem dX3_isAtDigit_1 : decode cX3_isAtDigit 1 = .ok (.getfield 22, 3) := by decide +kernel
theorem dX3_isAtDigit_4 : decode cX3_isAtDigit 4 = .ok (.iconst (-1), 1) := by decide +kernel
theorem dX3_isAtDigit_5 : decode cX3_isAtDigit 5 = .ok (.if_icmp .ne 46, 3) := by decide +kernel
theorem dX3_isAtDigit_8 : decode cX3_isAtDigit 8 = .ok (.aload_n 0, 1) := by decide +kernel
theorem dX3_isAtDigit_9 : decode cX3_isAtDigit 9 = .ok (.getfield 19, 3) := by decide +kernel
theorem dX3_isAtDigit_12 : decode cX3_isAtDigit 12 = .ok (.aload_n 0, 1) := by decide +kernel
theorem dX3_isAtDigit_13 : decode cX3_isAtDigit 13 = .ok (.getfield 15, 3) := by decide +kernel
theorem dX3_isAtDigit_16 : decode cX3_isAtDigit 16 = .ok (.if_icmp .ge 35, 3) := by decide +kernel
theorem dX3_isAtDigit_19 : decode cX3_isAtDigit 19 = .ok (.aload_n 0, 1) := by decide +kernel
theorem dX3_isAtDigit_20 : decode cX3_isAtDigit 20 = .ok (.getfield 9, 3) := by decide +kernel
theorem dX3_isAtDigit_23 : decode cX3_isAtDigit 23 = .ok (.aload_n 0, 1) := by decide +kernel
theorem dX3_isAtDigit_24 : decode cX3_isAtDigit 24 = .ok (.getfield 19, 3) := by decide +kernel
theorem dX3_isAtDigit_27 : decode cX3_isAtDigit 27 = .ok (.iaload, 1) := by decide +kernel
theorem dX3_isAtDigit_28 : decode cX3_isAtDigit 28 = .ok (.bipush 48, 2) := by decide +kernel
theorem dX3_isAtDigit_30 : decode cX3_isAtDigit 30 = .ok (.if_icmp .lt 21, 3) := by decide +kernel
theorem dX3_isAtDigit_33 : decode cX3_isAtDigit 33 = .ok (.aload_n 0, 1) := by decide +kernel
theorem dX3_isAtDigit_34 : decode cX3_isAtDigit 34 = .ok (.getfield 9, 3) := by decide +kernel
theorem dX3_isAtDigit_37 : decode cX3_isAtDigit 37 = .ok (.aload_n 0, 1) := by decide +kernel
theorem dX3_isAtDigit_38 : decode cX3_isAtDigit 38 = .ok (.getfield 19, 3) := by decide +kernel
theorem dX3_isAtDigit_41 : decode cX3_isAtDigit 41 = .ok (.iaload, 1) := by decide +kernel
theorem dX3_isAtDigit_42 : decode cX3_isAtDigit 42 = .ok (.bipush 57, 2) := by decide +kernel
theorem dX3_isAtDigit_44 : decode cX3_isAtDigit 44 = .ok (.if_icmp .gt 7, 3) := by decide +kernel
theorem dX3_isAtDigit_47 : decode cX3_isAtDigit 47 = .ok (.iconst 1, 1) := by decide +kernel
theorem dX3_isAtDigit_48 : decode cX3_isAtDigit 48 = .ok (.goto 4, 3) := by decide +kernel
theorem dX3_isAtDigit_51 : decode cX3_isAtDigit 51 = .ok (.iconst 0, 1) := by decide +kernel
theorem dX3_isAtDigit_52 : decode cX3_isAtDigit 52 = .ok (.ireturn, 1) := by decide +kernel
theorem dX3_refuseHere_0 : decode cX3_refuseHere 0 = .ok (.aload_n 0, 1) := by decide +kernel
theorem dX3_refuseHere_1 : decode cX3_refuseHere 1 = .ok (.getfield 22, 3) := by decide +kernel
theorem dX3_refuseHere_4 : decode cX3_refuseHere 4 = .ok (.iconst (-1), 1) := by decide +kernel
theorem dX3_refuseHere_5 : decode cX3_refuseHere 5 = .ok (.if_icmp .ne 11, 3) := by decide +kernel
theorem dX3_refuseHere_8 : decode cX3_refuseHere 8 = .ok (.aload_n 0, 1) := by decide +kernel
theorem dX3_refuseHere_9 : decode cX3_refuseHere 9 = .ok (.aload_n 0, 1) := by decide +kernel
theorem dX3_refuseHere_10 : decode cX3_refuseHere 10 = .ok (.getfield 19, 3) := by decide +kernel
theorem dX3_refuseHere_13 : decode cX3_refuseHere 13 = .ok (.putfield 22, 3) := by decide +kernel
theorem dX3_refuseHere_16 : decode cX3_refuseHere 16 = .ok (.return_, 1) := by decide +kernel
theorem dX3_refuseLastDigitIf_0 : decode cX3_refuseLastDigitIf 0 = .ok (.iload_n 1, 1) := by decide +kernel
theorem dX3_refuseLastDigitIf_1 : decode cX3_refuseLastDigitIf 1 = .ok (.ifCond .eq 21, 3) := by decide +kernel
theorem dX3_refuseLastDigitIf_4 : decode cX3_refuseLastDigitIf 4 = .ok (.aload_n 0, 1) := by decide +kernel
theorem dX3_refuseLastDigitIf_5 : decode cX3_refuseLastDigitIf 5 = .ok (.getfield 22, 3) := by decide +kernel
theorem dX3_refuseLastDigitIf_8 : decode cX3_refuseLastDigitIf 8 = .ok (.iconst (-1), 1) := by decide +kernel
theorem dX3_refuseLastDigitIf_9 : decode cX3_refuseLastDigitIf 9 = .ok (.if_icmp .ne 13, 3) := by decide +kernel
theorem dX3_refuseLastDigitIf_12 : decode cX3_refuseLastDigitIf 12 = .ok (.aload_n 0, 1) := by decide +kernel
theorem dX3_refuseLastDigitIf_13 : decode cX3_refuseLastDigitIf 13 = .ok (.aload_n 0, 1) := by decide +kernel
theorem dX3_refuseLastDigitIf_14 : decode cX3_refuseLastDigitIf 14 = .ok (.getfield 19, 3) := by decide +kernel
theorem dX3_refuseLastDigitIf_17 : decode cX3_refuseLastDigitIf 17 = .ok (.iconst 1, 1) := by decide +kernel
theorem dX3_refuseLastDigitIf_18 : decode cX3_refuseLastDigitIf 18 = .ok (.isub, 1) := by decide +kernel
theorem dX3_refuseLastDigitIf_19 : decode cX3_refuseLastDigitIf 19 = .ok (.putfield 22, 3) := by decide +kernel
theorem dX3_refuseLastDigitIf_22 : decode cX3_refuseLastDigitIf 22 = .ok (.return_, 1) := by decide +kernel
theorem dX4_init_0 : decode cX4_init 0 = .ok (.aload_n 0, 1) := by decide +kernel
theorem dX4_init_1 : decode cX4_init 1 = .ok (.invokespecial 1, 3) := by decide +kernel
theorem dX4_init_4 : decode cX4_init 4 = .ok (.aload_n 0, 1) := by decide +kernel
theorem dX4_init_5 : decode cX4_init 5 = .ok (.new 7, 3) := by decide +kernel
theorem dX4_init_8 : decode cX4_init 8 = .ok (.dup, 1) := by decide +kernel
theorem dX4_init_9 : decode cX4_init 9 = .ok (.invokespecial 9, 3) := by decide +kernel
theorem dX4_init_12 : decode cX4_init 12 = .ok (.putfield 10, 3) := by decide +kernel
theorem dX4_init_15 : decode cX4_init 15 = .ok (.aload_n 0, 1) := by decide +kernel
theorem dX4_init_16 : decode cX4_init 16 = .ok (.new 7, 3) := by decide +kernel
theorem dX4_init_19 : decode cX4_init 19 = .ok (.dup, 1) := by decide +kernel
theorem dX4_init_20 : decode cX4_init 20 = .ok (.invokespecial 9, 3) := by decide +kernel
theorem dX4_init_23 : decode cX4_init 23 = .ok (.putfield 16, 3) := by decide +kernel
theorem dX4_init_26 : decode cX4_init 26 = .ok (.aload_n 0, 1) := by decide +kernel
theorem dX4_init_27 : decode cX4_init 27 = .ok (.new 19, 3) := by decide +kernel
theorem dX4_init_30 : decode cX4_init 30 = .ok (.dup, 1) := by decide +kernel
theorem dX4_init_31 : decode cX4_init 31 = .ok (.invokespecial 21, 3) := by decide +kernel
theorem dX4_init_34 : decode cX4_init 34 = .ok (.putfield 22, 3) := by decide +kernel
theorem dX4_init_37 : decode cX4_init 37 = .ok (.aload_n 0, 1) := by decide +kernel
theorem dX4_init_38 : decode cX4_init 38 = .ok (.new 26, 3) := by decide +kernel
theorem dX4_init_41 : decode cX4_init 41 = .ok (.dup, 1) := by decide +kernel
theorem dX4_init_42 : decode cX4_init 42 = .ok (.invokespecial 28, 3) := by decide +kernel
theorem dX4_init_45 : decode cX4_init 45 = .ok (.putfield 29, 3) := by decide +kernel
theorem dX4_init_48 : decode cX4_init 48 = .ok (.aload_n 0, 1) := by decide +kernel
theorem dX4_init_49 : decode cX4_init 49 = .ok (.getfield 10, 3) := by decide +kernel
theorem dX4_init_52 : decode cX4_init 52 = .ok (.invokevirtual 33, 3) := by decide +kernel
theorem dX4_init_55 : decode cX4_init 55 = .ok (.return_, 1) := by decide +kernel
theorem dX4_setPage_0 : decode cX4_setPage 0 = .ok (.iload_n 1, 1) := by decide +kernel
theorem dX4_setPage_1 : decode cX4_setPage 1 = .ok (.invokestatic 36, 3) := by decide +kernel
theorem dX4_setPage_4 : decode cX4_setPage 4 = .ok (.ifCond .eq 23, 3) := by decide +kernel
theorem dX4_setPage_7 : decode cX4_setPage 7 = .ok (.iload_n 2, 1) := by decide +kernel
theorem dX4_setPage_8 : decode cX4_setPage 8 = .ok (.invokestatic 36, 3) := by decide +kernel
theorem dX4_setPage_11 : decode cX4_setPage 11 = .ok (.ifCond .eq 16, 3) := by decide +kernel
theorem dX4_setPage_14 : decode cX4_setPage 14 = .ok (.iload_n 2, 1) := by decide +kernel
theorem dX4_setPage_15 : decode cX4_setPage 15 = .ok (.iload_n 1, 1) := by decide +kernel
theorem dX4_setPage_16 : decode cX4_setPage 16 = .ok (.if_icmp .lt 11, 3) := by decide +kernel
theorem dX4_setPage_19 : decode cX4_setPage 19 = .ok (.iload_n 2, 1) := by decide +kernel
theorem dX4_setPage_20 : decode cX4_setPage 20 = .ok (.iload_n 1, 1) := by decide +kernel
theorem dX4_setPage_21 : decode cX4_setPage 21 = .ok (.isub, 1) := by decide +kernel
theorem dX4_setPage_22 : decode cX4_setPage 22 = .ok (.bipush 42, 2) := by decide +kernel
theorem dX4_setPage_24 : decode cX4_setPage 24 = .ok (.if_icmp .lt 5, 3) := by decide +kernel
theorem dX4_setPage_27 : decode cX4_setPage 27 = .ok (.iconst (-1), 1) := by decide +kernel
theorem dX4_setPage_28 : decode cX4_setPage 28 = .ok (.ireturn, 1) := by decide +kernel
theorem dX4_setPage_29 : decode cX4_setPage 29 = .ok (.aload_n 0, 1) := by decide +kernel
theorem dX4_setPage_30 : decode cX4_setPage 30 = .ok (.getfield 22, 3) := by decide +kernel
theorem dX4_setPage_33 : decode cX4_setPage 33 = .ok (.aload_n 0, 1) := by decide +kernel
theorem dX4_setPage_34 : decode cX4_setPage 34 = .ok (.getfield 10, 3) := by decide +kernel
theorem dX4_setPage_37 : decode cX4_setPage 37 = .ok (.getfield 40, 3) := by decide +kernel
theorem dX4_setPage_40 : decode cX4_setPage 40 = .ok (.invokevirtual 44, 3) := by decide +kernel
theorem dX4_setPage_43 : decode cX4_setPage 43 = .ok (.aload_n 0, 1) := by decide +kernel
theorem dX4_setPage_44 : decode cX4_setPage 44 = .ok (.getfield 10, 3) := by decide +kernel
theorem dX4_setPage_47 : decode cX4_setPage 47 = .ok (.getfield 40, 3) := by decide +kernel
theorem dX4_setPage_50 : decode cX4_setPage 50 = .ok (.iload_n 1, 1) := by decide +kernel
theorem dX4_setPage_51 : decode cX4_setPage 51 = .ok (.putfield 48, 3) := by decide +kernel
theorem dX4_setPage_54 : decode cX4_setPage 54 = .ok (.aload_n 0, 1) := by decide +kernel
theorem dX4_setPage_55 : decode cX4_setPage 55 = .ok (.getfield 10, 3) := by decide +kernel
theorem dX4_setPage_58 : decode cX4_setPage 58 = .ok (.getfield 40, 3) := by decide +kernel
theorem dX4_setPage_61 : decode cX4_setPage 61 = .ok (.iload_n 2, 1) := by decide +kernel
theorem dX4_setPage_62 : decode cX4_setPage 62 = .ok (.putfield 54, 3) := by decide +kernel
theorem dX4_setPage_65 : decode cX4_setPage 65 = .ok (.aload_n 0, 1) := by decide +kernel
theorem dX4_setPage_66 : decode cX4_setPage 66 = .ok (.getfield 10, 3) := by decide +kernel
theorem dX4_setPage_69 : decode cX4_setPage 69 = .ok (.invokevirtual 33, 3) := by decide +kernel
theorem dX4_setPage_72 : decode cX4_setPage 72 = .ok (.aload_n 0, 1) := by decide +kernel
theorem dX4_setPage_73 : decode cX4_setPage 73 = .ok (.getfield 10, 3) := by decide +kernel
theorem dX4_setPage_76 : decode cX4_setPage 76 = .ok (.getfield 57, 3) := by decide +kernel
theorem dX4_setPage_79 : decode cX4_setPage 79 = .ok (.ireturn, 1) := by decide +kernel
theorem dX4_setWeek_0 : decode cX4_setWeek 0 = .ok (.iload_n 1, 1) := by decide +kernel
theorem dX4_setWeek_1 : decode cX4_setWeek 1 = .ok (.iconst 0, 1) := by decide +kernel
theorem dX4_setWeek_2 : decode cX4_setWeek 2 = .ok (.bipush 6, 2) := by decide +kernel
theorem dX4_setWeek_4 : decode cX4_setWeek 4 = .ok (.invokestatic 60, 3) := by decide +kernel
theorem dX4_setWeek_7 : decode cX4_setWeek 7 = .ok (.ifCond .ne 5, 3) := by decide +kernel
theorem dX4_setWeek_10 : decode cX4_setWeek 10 = .ok (.iconst (-1), 1) := by decide +kernel
theorem dX4_setWeek_11 : decode cX4_setWeek 11 = .ok (.ireturn, 1) := by decide +kernel
theorem dX4_setWeek_12 : decode cX4_setWeek 12 = .ok (.aload_n 0, 1) := by decide +kernel
theorem dX4_setWeek_13 : decode cX4_setWeek 13 = .ok (.getfield 22, 3) := by decide +kernel
theorem dX4_setWeek_16 : decode cX4_setWeek 16 = .ok (.aload_n 0, 1) := by decide +kernel
theorem dX4_setWeek_17 : decode cX4_setWeek 17 = .ok (.getfield 10, 3) := by decide +kernel
theorem dX4_setWeek_20 : decode cX4_setWeek 20 = .ok (.getfield 40, 3) := by decide +kernel
theorem dX4_setWeek_23 : decode cX4_setWeek 23 = .ok (.invokevirtual 44, 3) := by decide +kernel
theorem dX4_setWeek_26 : decode cX4_setWeek 26 = .ok (.aload_n 0, 1) := by decide +kernel
theorem dX4_setWeek_27 : decode cX4_setWeek 27 = .ok (.getfield 10, 3) := by decide +kernel
theorem dX4_setWeek_30 : decode cX4_setWeek 30 = .ok (.getfield 40, 3) := by decide +kernel
theorem dX4_setWeek_33 : decode cX4_setWeek 33 = .ok (.iload_n 1, 1) := by decide +kernel
theorem dX4_setWeek_34 : decode cX4_setWeek 34 = .ok (.putfield 64, 3) := by decide +kernel
theorem dX4_setWeek_37 : decode cX4_setWeek 37 = .ok (.aload_n 0, 1) := by decide +kernel
theorem dX4_setWeek_38 : decode cX4_setWeek 38 = .ok (.getfield 10, 3) := by decide +kernel
theorem dX4_setWeek_41 : decode cX4_setWeek 41 = .ok (.invokevirtual 33, 3) := by decide +kernel
theorem dX4_setWeek_44 : decode cX4_setWeek 44 = .ok (.aload_n 0, 1) := by decide +kernel
theorem dX4_setWeek_45 : decode cX4_setWeek 45 = .ok (.getfield 10, 3) := by decide +kernel
theorem dX4_setWeek_48 : decode cX4_setWeek 48 = .ok (.getfield 57, 3) := by decide +kernel
theorem dX4_setWeek_51 : decode cX4_setWeek 51 = .ok (.ireturn, 1) := by decide +kernel
theorem dX4_setRows_0 : decode cX4_setRows 0 = .ok (.iload_n 1, 1) := by decide +kernel
theorem dX4_setRows_1 : decode cX4_setRows 1 = .ok (.iconst 1, 1) := by decide +kernel
theorem dX4_setRows_2 : decode cX4_setRows 2 = .ok (.bipush 12, 2) := by decide +kernel
theorem dX4_setRows_4 : decode cX4_setRows 4 = .ok (.invokestatic 60, 3) := by decide +kernel
theorem dX4_setRows_7 : decode cX4_setRows 7 = .ok (.ifCond .ne 5, 3) := by decide +kernel
theorem dX4_setRows_10 : decode cX4_setRows 10 = .ok (.iconst (-1), 1) := by decide +kernel
theorem dX4_setRows_11 : decode cX4_setRows 11 = .ok (.ireturn, 1) := by decide +kernel
theorem dX4_setRows_12 : decode cX4_setRows 12 = .ok (.aload_n 0, 1) := by decide +kernel
theorem dX4_setRows_13 : decode cX4_setRows 13 = .ok (.getfield 22, 3) := by decide +kernel
theorem dX4_setRows_16 : decode cX4_setRows 16 = .ok (.aload_n 0, 1) := by decide +kernel
theorem dX4_setRows_17 : decode cX4_setRows 17 = .ok (.getfield 10, 3) := by decide +kernel
theorem dX4_setRows_20 : decode cX4_setRows 20 = .ok (.getfield 40, 3) := by decide +kernel
theorem dX4_setRows_23 : decode cX4_setRows 23 = .ok (.invokevirtual 44, 3) := by decide +kernel
theorem dX4_setRows_26 : decode cX4_setRows 26 = .ok (.aload_n 0, 1) := by decide +kernel
theorem dX4_setRows_27 : decode cX4_setRows 27 = .ok (.getfield 10, 3) := by decide +kernel
theorem dX4_setRows_30 : decode cX4_setRows 30 = .ok (.getfield 40, 3) := by decide +kernel
theorem dX4_setRows_33 : decode cX4_setRows 33 = .ok (.getfield 67, 3) := by decide +kernel
theorem dX4_setRows_36 : decode cX4_setRows 36 = .ok (.istore_n 2, 1) := by decide +kernel
theorem dX4_setRows_37 : decode cX4_setRows 37 = .ok (.aload_n 0, 1) := by decide +kernel
theorem dX4_setRows_38 : decode cX4_setRows 38 = .ok (.getfield 10, 3) := by decide +kernel
theorem dX4_setRows_41 : decode cX4_setRows 41 = .ok (.getfield 40, 3) := by decide +kernel
theorem dX4_setRows_44 : decode cX4_setRows 44 = .ok (.iload_n 1, 1) := by decide +kernel
theorem dX4_setRows_45 : decode cX4_setRows 45 = .ok (.putfield 67, 3) := by decide +kernel
theorem dX4_setRows_48 : decode cX4_setRows 48 = .ok (.iload_n 2, 1) := by decide +kernel
theorem dX4_setRows_49 : decode cX4_setRows 49 = .ok (.ireturn, 1) := by decide +kernel
theorem dX4_week_0 : decode cX4_week 0 = .ok (.iload_n 1, 1) := by decide +kernel
theorem dX4_week_1 : decode cX4_week 1 = .ok (.ifCond .lt 12, 3) := by decide +kernel
theorem dX4_week_4 : decode cX4_week 4 = .ok (.iload_n 2, 1) := by decide +kernel
theorem dX4_week_5 : decode cX4_week 5 = .ok (.iconst 0, 1) := by decide +kernel
theorem dX4_week_6 : decode cX4_week 6 = .ok (.iconst 5, 1) := by decide +kernel
theorem dX4_week_7 : decode cX4_week 7 = .ok (.invokestatic 60, 3) := by decide +kernel
theorem dX4_week_10 : decode cX4_week 10 = .ok (.ifCond .ne 5, 3) := by decide +kernel
theorem dX4_week_13 : decode cX4_week 13 = .ok (.iconst (-1), 1) := by decide +kernel
theorem dX4_week_14 : decode cX4_week 14 = .ok (.ireturn, 1) := by decide +kernel
theorem dX4_week_15 : decode cX4_week 15 = .ok (.iload_n 1, 1) := by decide +kernel
theorem dX4_week_16 : decode cX4_week 16 = .ok (.aload_n 0, 1) := by decide +kernel
theorem dX4_week_17 : decode cX4_week 17 = .ok (.getfield 10, 3) := by decide +kernel
theorem dX4_week_20 : decode cX4_week 20 = .ok (.getfield 57, 3) := by decide +kernel
theorem dX4_week_23 : decode cX4_week 23 = .ok (.if_icmp .lt 6, 3) := by decide +kernel
theorem dX4_week_26 : decode cX4_week 26 = .ok (.bipush (-9), 2) := by decide +kernel
theorem dX4_week_28 : decode cX4_week 28 = .ok (.ireturn, 1) := by decide +kernel
theorem dX4_week_29 : decode cX4_week 29 = .ok (.aload_n 0, 1) := by decide +kernel
theorem dX4_week_30 : decode cX4_week 30 = .ok (.getfield 10, 3) := by decide +kernel
theorem dX4_week_33 : decode cX4_week 33 = .ok (.iload_n 1, 1) := by decide +kernel
theorem dX4_week_34 : decode cX4_week 34 = .ok (.invokevirtual 70, 3) := by decide +kernel
theorem dX4_week_37 : decode cX4_week 37 = .ok (.istore_n 3, 1) := by decide +kernel
theorem dX4_week_38 : decode cX4_week 38 = .ok (.aload_n 0, 1) := by decide +kernel
theorem dX4_week_39 : decode cX4_week 39 = .ok (.getfield 10, 3) := by decide +kernel
theorem dX4_week_42 : decode cX4_week 42 = .ok (.iload_n 1, 1) := by decide +kernel
theorem dX4_week_43 : decode cX4_week 43 = .ok (.invokevirtual 74, 3) := by decide +kernel
theorem dX4_week_46 : decode cX4_week 46 = .ok (.istore 4, 2) := by decide +kernel
theorem dX4_week_48 : decode cX4_week 48 = .ok (.iload_n 2, 1) := by decide +kernel
theorem dX4_week_49 : decode cX4_week 49 = .ok (.tableswitch 72 0 4 #[35, 37, 40, 49, 58], 35) := by decide +kernel
theorem dX4_week_84 : decode cX4_week 84 = .ok (.iload_n 3, 1) := by decide +kernel
theorem dX4_week_85 : decode cX4_week 85 = .ok (.ireturn, 1) := by decide +kernel
theorem dX4_week_86 : decode cX4_week 86 = .ok (.iload 4, 2) := by decide +kernel
theorem dX4_week_88 : decode cX4_week 88 = .ok (.ireturn, 1) := by decide +kernel
theorem dX4_week_89 : decode cX4_week 89 = .ok (.aload_n 0, 1) := by decide +kernel
theorem dX4_week_90 : decode cX4_week 90 = .ok (.getfield 10, 3) := by decide +kernel
theorem dX4_week_93 : decode cX4_week 93 = .ok (.iload_n 1, 1) := by decide +kernel
theorem dX4_week_94 : decode cX4_week 94 = .ok (.invokevirtual 77, 3) := by decide +kernel
theorem dX4_week_97 : decode cX4_week 97 = .ok (.ireturn, 1) := by decide +kernel
theorem dX4_week_98 : decode cX4_week 98 = .ok (.aload_n 0, 1) := by decide +kernel
theorem dX4_week_99 : decode cX4_week 99 = .ok (.getfield 10, 3) := by decide +kernel
theorem dX4_week_102 : decode cX4_week 102 = .ok (.iload_n 1, 1) := by decide +kernel
theorem dX4_week_103 : decode cX4_week 103 = .ok (.invokevirtual 80, 3) := by decide +kernel
theorem dX4_week_106 : decode cX4_week 106 = .ok (.ireturn, 1) := by decide +kernel
theorem dX4_week_107 : decode cX4_week 107 = .ok (.aload_n 0, 1) := by decide +kernel
theorem dX4_week_108 : decode cX4_week 108 = .ok (.getfield 10, 3) := by decide +kernel
theorem dX4_week_111 : decode cX4_week 111 = .ok (.getfield 40, 3) := by decide +kernel
theorem dX4_week_114 : decode cX4_week 114 = .ok (.iload_n 3, 1) := by decide +kernel
theorem dX4_week_115 : decode cX4_week 115 = .ok (.iload 4, 2) := by decide +kernel
theorem dX4_week_117 : decode cX4_week 117 = .ok (.invokevirtual 83, 3) := by decide +kernel
theorem dX4_week_120 : decode cX4_week 120 = .ok (.ireturn, 1) := by decide +kernel
theorem dX4_week_121 : decode cX4_week 121 = .ok (.aload_n 0, 1) := by decide +kernel
theorem dX4_week_122 : decode cX4_week 122 = .ok (.getfield 10, 3) := by decide +kernel
theorem dX4_week_125 : decode cX4_week 125 = .ok (.iload_n 3, 1) := by decide +kernel
theorem dX4_week_126 : decode cX4_week 126 = .ok (.iload 4, 2) := by decide +kernel
theorem dX4_week_128 : decode cX4_week 128 = .ok (.aload_n 0, 1) := by decide +kernel
theorem dX4_week_129 : decode cX4_week 129 = .ok (.getfield 10, 3) := by decide +kernel
theorem dX4_week_132 : decode cX4_week 132 = .ok (.getfield 40, 3) := by decide +kernel
theorem dX4_week_135 : decode cX4_week 135 = .ok (.getfield 67, 3) := by decide +kernel
theorem dX4_week_138 : decode cX4_week 138 = .ok (.invokevirtual 87, 3) := by decide +kernel
theorem dX4_week_141 : decode cX4_week 141 = .ok (.ireturn, 1) := by decide +kernel
theorem dX4_type_0 : decode cX4_type 0 = .ok (.iload_n 1, 1) := by decide +kernel
theorem dX4_type_1 : decode cX4_type 1 = .ok (.bipush 33, 2) := by decide +kernel
theorem dX4_type_3 : decode cX4_type 3 = .ok (.bipush 126, 2) := by decide +kernel
theorem dX4_type_5 : decode cX4_type 5 = .ok (.invokestatic 60, 3) := by decide +kernel
theorem dX4_type_8 : decode cX4_type 8 = .ok (.ifCond .ne 5, 3) := by decide +kernel
theorem dX4_type_11 : decode cX4_type 11 = .ok (.iconst (-1), 1) := by decide +kernel
theorem dX4_type_12 : decode cX4_type 12 = .ok (.ireturn, 1) := by decide +kernel
theorem dX4_type_13 : decode cX4_type 13 = .ok (.aload_n 0, 1) := by decide +kernel
theorem dX4_type_14 : decode cX4_type 14 = .ok (.getfield 29, 3) := by decide +kernel
theorem dX4_type_17 : decode cX4_type 17 = .ok (.getfield 91, 3) := by decide +kernel
theorem dX4_type_20 : decode cX4_type 20 = .ok (.bipush 100, 2) := by decide +kernel
theorem dX4_type_22 : decode cX4_type 22 = .ok (.if_icmp .lt 6, 3) := by decide +kernel
theorem dX4_type_25 : decode cX4_type 25 = .ok (.bipush (-3), 2) := by decide +kernel
theorem dX4_type_27 : decode cX4_type 27 = .ok (.ireturn, 1) := by decide +kernel
theorem dX4_type_28 : decode cX4_type 28 = .ok (.aload_n 0, 1) := by decide +kernel
theorem dX4_type_29 : decode cX4_type 29 = .ok (.getfield 29, 3) := by decide +kernel
theorem dX4_type_32 : decode cX4_type 32 = .ok (.iload_n 1, 1) := by decide +kernel
theorem dX4_type_33 : decode cX4_type 33 = .ok (.invokevirtual 94, 3) := by decide +kernel
theorem dX4_type_36 : decode cX4_type 36 = .ok (.aload_n 0, 1) := by decide +kernel
theorem dX4_type_37 : decode cX4_type 37 = .ok (.getfield 29, 3) := by decide +kernel
theorem dX4_type_40 : decode cX4_type 40 = .ok (.getfield 91, 3) := by decide +kernel
theorem dX4_type_43 : decode cX4_type 43 = .ok (.ireturn, 1) := by decide +kernel
theorem dX4_clear_0 : decode cX4_clear 0 = .ok (.aload_n 0, 1) := by decide +kernel
theorem dX4_clear_1 : decode cX4_clear 1 = .ok (.getfield 29, 3) := by decide +kernel
theorem dX4_clear_4 : decode cX4_clear 4 = .ok (.getfield 91, 3) := by decide +kernel
theorem dX4_clear_7 : decode cX4_clear 7 = .ok (.istore_n 1, 1) := by decide +kernel
theorem dX4_clear_8 : decode cX4_clear 8 = .ok (.aload_n 0, 1) := by decide +kernel
theorem dX4_clear_9 : decode cX4_clear 9 = .ok (.getfield 29, 3) := by decide +kernel
theorem dX4_clear_12 : decode cX4_clear 12 = .ok (.iconst 0, 1) := by decide +kernel
theorem dX4_clear_13 : decode cX4_clear 13 = .ok (.putfield 91, 3) := by decide +kernel
theorem dX4_clear_16 : decode cX4_clear 16 = .ok (.iload_n 1, 1) := by decide +kernel
theorem dX4_clear_17 : decode cX4_clear 17 = .ok (.ireturn, 1) := by decide +kernel
theorem dX4_load_0 : decode cX4_load 0 = .ok (.aload_n 0, 1) := by decide +kernel
theorem dX4_load_1 : decode cX4_load 1 = .ok (.getfield 16, 3) := by decide +kernel
theorem dX4_load_4 : decode cX4_load 4 = .ok (.getfield 40, 3) := by decide +kernel
theorem dX4_load_7 : decode cX4_load 7 = .ok (.astore_n 1, 1) := by decide +kernel
theorem dX4_load_8 : decode cX4_load 8 = .ok (.aload_n 1, 1) := by decide +kernel
theorem dX4_load_9 : decode cX4_load 9 = .ok (.aload_n 0, 1) := by decide +kernel
theorem dX4_load_10 : decode cX4_load 10 = .ok (.getfield 10, 3) := by decide +kernel
theorem dX4_load_13 : decode cX4_load 13 = .ok (.getfield 40, 3) := by decide +kernel
theorem dX4_load_16 : decode cX4_load 16 = .ok (.invokevirtual 98, 3) := by decide +kernel
theorem dX4_load_19 : decode cX4_load 19 = .ok (.aload_n 0, 1) := by decide +kernel
theorem dX4_load_20 : decode cX4_load 20 = .ok (.getfield 29, 3) := by decide +kernel
theorem dX4_load_23 : decode cX4_load 23 = .ok (.aload_n 1, 1) := by decide +kernel
theorem dX4_load_24 : decode cX4_load 24 = .ok (.invokevirtual 101, 3) := by decide +kernel
theorem dX4_load_27 : decode cX4_load 27 = .ok (.istore_n 2, 1) := by decide +kernel
theorem dX4_load_28 : decode cX4_load 28 = .ok (.iload_n 2, 1) := by decide +kernel
theorem dX4_load_29 : decode cX4_load 29 = .ok (.iconst (-1), 1) := by decide +kernel
theorem dX4_load_30 : decode cX4_load 30 = .ok (.if_icmp .eq 8, 3) := by decide +kernel
theorem dX4_load_33 : decode cX4_load 33 = .ok (.bipush (-10), 2) := by decide +kernel
theorem dX4_load_35 : decode cX4_load 35 = .ok (.iload_n 2, 1) := by decide +kernel
theorem dX4_load_36 : decode cX4_load 36 = .ok (.isub, 1) := by decide +kernel
theorem dX4_load_37 : decode cX4_load 37 = .ok (.ireturn, 1) := by decide +kernel
theorem dX4_load_38 : decode cX4_load 38 = .ok (.aload_n 0, 1) := by decide +kernel
theorem dX4_load_39 : decode cX4_load 39 = .ok (.getfield 22, 3) := by decide +kernel
theorem dX4_load_42 : decode cX4_load 42 = .ok (.aload_n 0, 1) := by decide +kernel
theorem dX4_load_43 : decode cX4_load 43 = .ok (.getfield 10, 3) := by decide +kernel
theorem dX4_load_46 : decode cX4_load 46 = .ok (.getfield 40, 3) := by decide +kernel
theorem dX4_load_49 : decode cX4_load 49 = .ok (.invokevirtual 44, 3) := by decide +kernel
theorem dX4_load_52 : decode cX4_load 52 = .ok (.aload_n 0, 1) := by decide +kernel
theorem dX4_load_53 : decode cX4_load 53 = .ok (.getfield 10, 3) := by decide +kernel
theorem dX4_load_56 : decode cX4_load 56 = .ok (.getfield 40, 3) := by decide +kernel
theorem dX4_load_59 : decode cX4_load 59 = .ok (.aload_n 1, 1) := by decide +kernel
theorem dX4_load_60 : decode cX4_load 60 = .ok (.invokevirtual 98, 3) := by decide +kernel
theorem dX4_load_63 : decode cX4_load 63 = .ok (.aload_n 0, 1) := by decide +kernel
theorem dX4_load_64 : decode cX4_load 64 = .ok (.getfield 10, 3) := by decide +kernel
theorem dX4_load_67 : decode cX4_load 67 = .ok (.invokevirtual 33, 3) := by decide +kernel
theorem dX4_load_70 : decode cX4_load 70 = .ok (.aload_n 0, 1) := by decide +kernel
theorem dX4_load_71 : decode cX4_load 71 = .ok (.getfield 10, 3) := by decide +kernel
theorem dX4_load_74 : decode cX4_load 74 = .ok (.getfield 40, 3) := by decide +kernel
theorem dX4_load_77 : decode cX4_load 77 = .ok (.getfield 105, 3) := by decide +kernel
theorem dX4_load_80 : decode cX4_load 80 = .ok (.ireturn, 1) := by decide +kernel
theorem dX4_add_0 : decode cX4_add 0 = .ok (.iload_n 1, 1) := by decide +kernel
theorem dX4_add_1 : decode cX4_add 1 = .ok (.invokestatic 36, 3) := by decide +kernel
theorem dX4_add_4 : decode cX4_add 4 = .ok (.ifCond .eq 30, 3) := by decide +kernel
theorem dX4_add_7 : decode cX4_add 7 = .ok (.iload_n 2, 1) := by decide +kernel
theorem dX4_add_8 : decode cX4_add 8 = .ok (.invokestatic 36, 3) := by decide +kernel
theorem dX4_add_11 : decode cX4_add 11 = .ok (.ifCond .eq 23, 3) := by decide +kernel
theorem dX4_add_14 : decode cX4_add 14 = .ok (.iload_n 2, 1) := by decide +kernel
theorem dX4_add_15 : decode cX4_add 15 = .ok (.iload_n 1, 1) := by decide +kernel
theorem dX4_add_16 : decode cX4_add 16 = .ok (.if_icmp .lt 18, 3) := by decide +kernel
theorem dX4_add_19 : decode cX4_add 19 = .ok (.iload_n 3, 1) := by decide +kernel
theorem dX4_add_20 : decode cX4_add 20 = .ok (.invokestatic 108, 3) := by decide +kernel
theorem dX4_add_23 : decode cX4_add 23 = .ok (.ifCond .eq 11, 3) := by decide +kernel
theorem dX4_add_26 : decode cX4_add 26 = .ok (.iload 4, 2) := by decide +kernel
theorem dX4_add_28 : decode cX4_add 28 = .ok (.invokestatic 111, 3) := by decide +kernel
theorem dX4_add_31 : decode cX4_add 31 = .ok (.ifCond .ne 5, 3) := by decide +kernel
theorem dX4_add_34 : decode cX4_add 34 = .ok (.iconst (-1), 1) := by decide +kernel
theorem dX4_add_35 : decode cX4_add 35 = .ok (.ireturn, 1) := by decide +kernel
theorem dX4_add_36 : decode cX4_add 36 = .ok (.aload_n 0, 1) := by decide +kernel
theorem dX4_add_37 : decode cX4_add 37 = .ok (.getfield 10, 3) := by decide +kernel
theorem dX4_add_40 : decode cX4_add 40 = .ok (.getfield 40, 3) := by decide +kernel
theorem dX4_add_43 : decode cX4_add 43 = .ok (.getfield 105, 3) := by decide +kernel
theorem dX4_add_46 : decode cX4_add 46 = .ok (.bipush 24, 2) := by decide +kernel
theorem dX4_add_48 : decode cX4_add 48 = .ok (.if_icmp .lt 6, 3) := by decide +kernel
theorem dX4_add_51 : decode cX4_add 51 = .ok (.bipush (-3), 2) := by decide +kernel
theorem dX4_add_53 : decode cX4_add 53 = .ok (.ireturn, 1) := by decide +kernel
theorem dX4_add_54 : decode cX4_add 54 = .ok (.aload_n 0, 1) := by decide +kernel
theorem dX4_add_55 : decode cX4_add 55 = .ok (.getfield 22, 3) := by decide +kernel
theorem dX4_add_58 : decode cX4_add 58 = .ok (.aload_n 0, 1) := by decide +kernel
theorem dX4_add_59 : decode cX4_add 59 = .ok (.getfield 10, 3) := by decide +kernel
theorem dX4_add_62 : decode cX4_add 62 = .ok (.getfield 40, 3) := by decide +kernel
theorem dX4_add_65 : decode cX4_add 65 = .ok (.invokevirtual 44, 3) := by decide +kernel
theorem dX4_add_68 : decode cX4_add 68 = .ok (.aload_n 0, 1) := by decide +kernel
theorem dX4_add_69 : decode cX4_add 69 = .ok (.getfield 10, 3) := by decide +kernel
theorem dX4_add_72 : decode cX4_add 72 = .ok (.getfield 40, 3) := by decide +kernel
theorem dX4_add_75 : decode cX4_add 75 = .ok (.iload_n 1, 1) := by decide +kernel
theorem dX4_add_76 : decode cX4_add 76 = .ok (.iload_n 2, 1) := by decide +kernel
theorem dX4_add_77 : decode cX4_add 77 = .ok (.iload_n 3, 1) := by decide +kernel
theorem dX4_add_78 : decode cX4_add 78 = .ok (.iload 4, 2) := by decide +kernel
theorem dX4_add_80 : decode cX4_add 80 = .ok (.invokevirtual 114, 3) := by decide +kernel
theorem dX4_add_83 : decode cX4_add 83 = .ok (.aload_n 0, 1) := by decide +kernel
theorem dX4_add_84 : decode cX4_add 84 = .ok (.getfield 10, 3) := by decide +kernel
theorem dX4_add_87 : decode cX4_add 87 = .ok (.invokevirtual 33, 3) := by decide +kernel
theorem dX4_add_90 : decode cX4_add 90 = .ok (.aload_n 0, 1) := by decide +kernel
theorem dX4_add_91 : decode cX4_add 91 = .ok (.getfield 10, 3) := by decide +kernel
theorem dX4_add_94 : decode cX4_add 94 = .ok (.getfield 40, 3) := by decide +kernel
theorem dX4_add_97 : decode cX4_add 97 = .ok (.getfield 105, 3) := by decide +kernel
theorem dX4_add_100 : decode cX4_add 100 = .ok (.iconst 1, 1) := by decide +kernel
theorem dX4_add_101 : decode cX4_add 101 = .ok (.isub, 1) := by decide +kernel
theorem dX4_add_102 : decode cX4_add 102 = .ok (.ireturn, 1) := by decide +kernel
theorem dX4_drop_0 : decode cX4_drop 0 = .ok (.aload_n 0, 1) := by decide +kernel
theorem dX4_drop_1 : decode cX4_drop 1 = .ok (.iload_n 1, 1) := by decide +kernel
theorem dX4_drop_2 : decode cX4_drop 2 = .ok (.invokevirtual 117, 3) := by decide +kernel
theorem dX4_drop_5 : decode cX4_drop 5 = .ok (.ifCond .ne 5, 3) := by decide +kernel
theorem dX4_drop_8 : decode cX4_drop 8 = .ok (.iconst (-1), 1) := by decide +kernel
theorem dX4_drop_9 : decode cX4_drop 9 = .ok (.ireturn, 1) := by decide +kernel
theorem dX4_drop_10 : decode cX4_drop 10 = .ok (.aload_n 0, 1) := by decide +kernel
theorem dX4_drop_11 : decode cX4_drop 11 = .ok (.getfield 22, 3) := by decide +kernel
theorem dX4_drop_14 : decode cX4_drop 14 = .ok (.aload_n 0, 1) := by decide +kernel
theorem dX4_drop_15 : decode cX4_drop 15 = .ok (.getfield 10, 3) := by decide +kernel
theorem dX4_drop_18 : decode cX4_drop 18 = .ok (.getfield 40, 3) := by decide +kernel
theorem dX4_drop_21 : decode cX4_drop 21 = .ok (.invokevirtual 44, 3) := by decide +kernel
theorem dX4_drop_24 : decode cX4_drop 24 = .ok (.aload_n 0, 1) := by decide +kernel
theorem dX4_drop_25 : decode cX4_drop 25 = .ok (.getfield 10, 3) := by decide +kernel
theorem dX4_drop_28 : decode cX4_drop 28 = .ok (.getfield 40, 3) := by decide +kernel
theorem dX4_drop_31 : decode cX4_drop 31 = .ok (.iload_n 1, 1) := by decide +kernel
theorem dX4_drop_32 : decode cX4_drop 32 = .ok (.invokevirtual 120, 3) := by decide +kernel
theorem dX4_drop_35 : decode cX4_drop 35 = .ok (.aload_n 0, 1) := by decide +kernel
theorem dX4_drop_36 : decode cX4_drop 36 = .ok (.getfield 10, 3) := by decide +kernel
theorem dX4_drop_39 : decode cX4_drop 39 = .ok (.invokevirtual 33, 3) := by decide +kernel
theorem dX4_drop_42 : decode cX4_drop 42 = .ok (.aload_n 0, 1) := by decide +kernel
theorem dX4_drop_43 : decode cX4_drop 43 = .ok (.getfield 10, 3) := by decide +kernel
theorem dX4_drop_46 : decode cX4_drop 46 = .ok (.getfield 40, 3) := by decide +kernel
theorem dX4_drop_49 : decode cX4_drop 49 = .ok (.getfield 105, 3) := by decide +kernel
theorem dX4_drop_52 : decode cX4_drop 52 = .ok (.ireturn, 1) := by decide +kernel
theorem dX4_move_0 : decode cX4_move 0 = .ok (.aload_n 0, 1) := by decide +kernel
theorem dX4_move_1 : decode cX4_move 1 = .ok (.iload_n 1, 1) := by decide +kernel
theorem dX4_move_2 : decode cX4_move 2 = .ok (.invokevirtual 117, 3) := by decide +kernel
theorem dX4_move_5 : decode cX4_move 5 = .ok (.ifCond .eq 16, 3) := by decide +kernel
theorem dX4_move_8 : decode cX4_move 8 = .ok (.iload_n 2, 1) := by decide +kernel
theorem dX4_move_9 : decode cX4_move 9 = .ok (.sipush (-999), 3) := by decide +kernel
theorem dX4_move_12 : decode cX4_move 12 = .ok (.sipush 999, 3) := by decide +kernel
theorem dX4_move_15 : decode cX4_move 15 = .ok (.invokestatic 60, 3) := by decide +kernel
theorem dX4_move_18 : decode cX4_move 18 = .ok (.ifCond .ne 5, 3) := by decide +kernel
theorem dX4_move_21 : decode cX4_move 21 = .ok (.iconst (-1), 1) := by decide +kernel
theorem dX4_move_22 : decode cX4_move 22 = .ok (.ireturn, 1) := by decide +kernel
theorem dX4_move_23 : decode cX4_move 23 = .ok (.aload_n 0, 1) := by decide +kernel
theorem dX4_move_24 : decode cX4_move 24 = .ok (.getfield 10, 3) := by decide +kernel
theorem dX4_move_27 : decode cX4_move 27 = .ok (.getfield 40, 3) := by decide +kernel
theorem dX4_move_30 : decode cX4_move 30 = .ok (.getfield 123, 3) := by decide +kernel
theorem dX4_move_33 : decode cX4_move 33 = .ok (.iload_n 1, 1) := by decide +kernel
theorem dX4_move_34 : decode cX4_move 34 = .ok (.iaload, 1) := by decide +kernel
theorem dX4_move_35 : decode cX4_move 35 = .ok (.iload_n 2, 1) := by decide +kernel
theorem dX4_move_36 : decode cX4_move 36 = .ok (.iadd, 1) := by decide +kernel
theorem dX4_move_37 : decode cX4_move 37 = .ok (.istore_n 3, 1) := by decide +kernel
theorem dX4_move_38 : decode cX4_move 38 = .ok (.aload_n 0, 1) := by decide +kernel
theorem dX4_move_39 : decode cX4_move 39 = .ok (.getfield 10, 3) := by decide +kernel
theorem dX4_move_42 : decode cX4_move 42 = .ok (.getfield 40, 3) := by decide +kernel
theorem dX4_move_45 : decode cX4_move 45 = .ok (.getfield 127, 3) := by decide +kernel
theorem dX4_move_48 : decode cX4_move 48 = .ok (.iload_n 1, 1) := by decide +kernel
theorem dX4_move_49 : decode cX4_move 49 = .ok (.iaload, 1) := by decide +kernel
theorem dX4_move_50 : decode cX4_move 50 = .ok (.iload_n 2, 1) := by decide +kernel
theorem dX4_move_51 : decode cX4_move 51 = .ok (.iadd, 1) := by decide +kernel
theorem dX4_move_52 : decode cX4_move 52 = .ok (.istore 4, 2) := by decide +kernel
theorem dX4_move_54 : decode cX4_move 54 = .ok (.iload_n 3, 1) := by decide +kernel
theorem dX4_move_55 : decode cX4_move 55 = .ok (.invokestatic 36, 3) := by decide +kernel
theorem dX4_move_58 : decode cX4_move 58 = .ok (.ifCond .eq 11, 3) := by decide +kernel
theorem dX4_move_61 : decode cX4_move 61 = .ok (.iload 4, 2) := by decide +kernel
theorem dX4_move_63 : decode cX4_move 63 = .ok (.invokestatic 36, 3) := by decide +kernel
theorem dX4_move_66 : decode cX4_move 66 = .ok (.ifCond .ne 6, 3) := by decide +kernel
theorem dX4_move_69 : decode cX4_move 69 = .ok (.bipush (-2), 2) := by decide +kernel
theorem dX4_move_71 : decode cX4_move 71 = .ok (.ireturn, 1) := by decide +kernel
theorem dX4_move_72 : decode cX4_move 72 = .ok (.aload_n 0, 1) := by decide +kernel
theorem dX4_move_73 : decode cX4_move 73 = .ok (.getfield 22, 3) := by decide +kernel
theorem dX4_move_76 : decode cX4_move 76 = .ok (.aload_n 0, 1) := by decide +kernel
theorem dX4_move_77 : decode cX4_move 77 = .ok (.getfield 10, 3) := by decide +kernel
theorem dX4_move_80 : decode cX4_move 80 = .ok (.getfield 40, 3) := by decide +kernel
theorem dX4_move_83 : decode cX4_move 83 = .ok (.invokevirtual 44, 3) := by decide +kernel
theorem dX4_move_86 : decode cX4_move 86 = .ok (.aload_n 0, 1) := by decide +kernel
theorem dX4_move_87 : decode cX4_move 87 = .ok (.getfield 10, 3) := by decide +kernel
theorem dX4_move_90 : decode cX4_move 90 = .ok (.getfield 40, 3) := by decide +kernel
theorem dX4_move_93 : decode cX4_move 93 = .ok (.getfield 123, 3) := by decide +kernel
theorem dX4_move_96 : decode cX4_move 96 = .ok (.iload_n 1, 1) := by decide +kernel
theorem dX4_move_97 : decode cX4_move 97 = .ok (.iload_n 3, 1) := by decide +kernel
theorem dX4_move_98 : decode cX4_move 98 = .ok (.iastore, 1) := by decide +kernel
theorem dX4_move_99 : decode cX4_move 99 = .ok (.aload_n 0, 1) := by decide +kernel
theorem dX4_move_100 : decode cX4_move 100 = .ok (.getfield 10, 3) := by decide +kernel
theorem dX4_move_103 : decode cX4_move 103 = .ok (.getfield 40, 3) := by decide +kernel
theorem dX4_move_106 : decode cX4_move 106 = .ok (.getfield 127, 3) := by decide +kernel
theorem dX4_move_109 : decode cX4_move 109 = .ok (.iload_n 1, 1) := by decide +kernel
theorem dX4_move_110 : decode cX4_move 110 = .ok (.iload 4, 2) := by decide +kernel
theorem dX4_move_112 : decode cX4_move 112 = .ok (.iastore, 1) := by decide +kernel
theorem dX4_move_113 : decode cX4_move 113 = .ok (.aload_n 0, 1) := by decide +kernel
theorem dX4_move_114 : decode cX4_move 114 = .ok (.getfield 10, 3) := by decide +kernel
theorem dX4_move_117 : decode cX4_move 117 = .ok (.invokevirtual 33, 3) := by decide +kernel
theorem dX4_move_120 : decode cX4_move 120 = .ok (.iload_n 3, 1) := by decide +kernel
theorem dX4_move_121 : decode cX4_move 121 = .ok (.ireturn, 1) := by decide +kernel
theorem dX4_stretch_0 : decode cX4_stretch 0 = .ok (.aload_n 0, 1) := by decide +kernel
theorem dX4_stretch_1 : decode cX4_stretch 1 = .ok (.iload_n 1, 1) := by decide +kernel
theorem dX4_stretch_2 : decode cX4_stretch 2 = .ok (.invokevirtual 117, 3) := by decide +kernel
theorem dX4_stretch_5 : decode cX4_stretch 5 = .ok (.ifCond .eq 10, 3) := by decide +kernel
theorem dX4_stretch_8 : decode cX4_stretch 8 = .ok (.iload_n 2, 1) := by decide +kernel
theorem dX4_stretch_9 : decode cX4_stretch 9 = .ok (.invokestatic 36, 3) := by decide +kernel
theorem dX4_stretch_12 : decode cX4_stretch 12 = .ok (.ifCond .ne 5, 3) := by decide +kernel
theorem dX4_stretch_15 : decode cX4_stretch 15 = .ok (.iconst (-1), 1) := by decide +kernel
theorem dX4_stretch_16 : decode cX4_stretch 16 = .ok (.ireturn, 1) := by decide +kernel
theorem dX4_stretch_17 : decode cX4_stretch 17 = .ok (.iload_n 2, 1) := by decide +kernel
theorem dX4_stretch_18 : decode cX4_stretch 18 = .ok (.aload_n 0, 1) := by decide +kernel
theorem dX4_stretch_19 : decode cX4_stretch 19 = .ok (.getfield 10, 3) := by decide +kernel
theorem dX4_stretch_22 : decode cX4_stretch 22 = .ok (.getfield 40, 3) := by decide +kernel
theorem dX4_stretch_25 : decode cX4_stretch 25 = .ok (.getfield 123, 3) := by decide +kernel
theorem dX4_stretch_28 : decode cX4_stretch 28 = .ok (.iload_n 1, 1) := by decide +kernel
theorem dX4_stretch_29 : decode cX4_stretch 29 = .ok (.iaload, 1) := by decide +kernel
theorem dX4_stretch_30 : decode cX4_stretch 30 = .ok (.if_icmp .ge 6, 3) := by decide +kernel
theorem dX4_stretch_33 : decode cX4_stretch 33 = .ok (.bipush (-2), 2) := by decide +kernel
theorem dX4_stretch_35 : decode cX4_stretch 35 = .ok (.ireturn, 1) := by decide +kernel
theorem dX4_stretch_36 : decode cX4_stretch 36 = .ok (.aload_n 0, 1) := by decide +kernel
theorem dX4_stretch_37 : decode cX4_stretch 37 = .ok (.getfield 22, 3) := by decide +kernel
theorem dX4_stretch_40 : decode cX4_stretch 40 = .ok (.aload_n 0, 1) := by decide +kernel
theorem dX4_stretch_41 : decode cX4_stretch 41 = .ok (.getfield 10, 3) := by decide +kernel
theorem dX4_stretch_44 : decode cX4_stretch 44 = .ok (.getfield 40, 3) := by decide +kernel
theorem dX4_stretch_47 : decode cX4_stretch 47 = .ok (.invokevirtual 44, 3) := by decide +kernel
theorem dX4_stretch_50 : decode cX4_stretch 50 = .ok (.aload_n 0, 1) := by decide +kernel
theorem dX4_stretch_51 : decode cX4_stretch 51 = .ok (.getfield 10, 3) := by decide +kernel
theorem dX4_stretch_54 : decode cX4_stretch 54 = .ok (.getfield 40, 3) := by decide +kernel
theorem dX4_stretch_57 : decode cX4_stretch 57 = .ok (.getfield 127, 3) := by decide +kernel
theorem dX4_stretch_60 : decode cX4_stretch 60 = .ok (.iload_n 1, 1) := by decide +kernel
theorem dX4_stretch_61 : decode cX4_stretch 61 = .ok (.iload_n 2, 1) := by decide +kernel
theorem dX4_stretch_62 : decode cX4_stretch 62 = .ok (.iastore, 1) := by decide +kernel
theorem dX4_stretch_63 : decode cX4_stretch 63 = .ok (.aload_n 0, 1) := by decide +kernel
theorem dX4_stretch_64 : decode cX4_stretch 64 = .ok (.getfield 10, 3) := by decide +kernel
theorem dX4_stretch_67 : decode cX4_stretch 67 = .ok (.invokevirtual 33, 3) := by decide +kernel
theorem dX4_stretch_70 : decode cX4_stretch 70 = .ok (.iload_n 2, 1) := by decide +kernel
theorem dX4_stretch_71 : decode cX4_stretch 71 = .ok (.aload_n 0, 1) := by decide +kernel
theorem dX4_stretch_72 : decode cX4_stretch 72 = .ok (.getfield 10, 3) := by decide +kernel
theorem dX4_stretch_75 : decode cX4_stretch 75 = .ok (.getfield 40, 3) := by decide +kernel
theorem dX4_stretch_78 : decode cX4_stretch 78 = .ok (.getfield 123, 3) := by decide +kernel
theorem dX4_stretch_81 : decode cX4_stretch 81 = .ok (.iload_n 1, 1) := by decide +kernel
theorem dX4_stretch_82 : decode cX4_stretch 82 = .ok (.iaload, 1) := by decide +kernel
theorem dX4_stretch_83 : decode cX4_stretch 83 = .ok (.isub, 1) := by decide +kernel
theorem dX4_stretch_84 : decode cX4_stretch 84 = .ok (.iconst 1, 1) := by decide +kernel
theorem dX4_stretch_85 : decode cX4_stretch 85 = .ok (.iadd, 1) := by decide +kernel
theorem dX4_stretch_86 : decode cX4_stretch 86 = .ok (.ireturn, 1) := by decide +kernel
theorem dX4_settle_0 : decode cX4_settle 0 = .ok (.aload_n 0, 1) := by decide +kernel
theorem dX4_settle_1 : decode cX4_settle 1 = .ok (.iload_n 1, 1) := by decide +kernel
theorem dX4_settle_2 : decode cX4_settle 2 = .ok (.invokevirtual 117, 3) := by decide +kernel
theorem dX4_settle_5 : decode cX4_settle 5 = .ok (.ifCond .eq 17, 3) := by decide +kernel
theorem dX4_settle_8 : decode cX4_settle 8 = .ok (.iload_n 2, 1) := by decide +kernel
theorem dX4_settle_9 : decode cX4_settle 9 = .ok (.invokestatic 108, 3) := by decide +kernel
theorem dX4_settle_12 : decode cX4_settle 12 = .ok (.ifCond .eq 10, 3) := by decide +kernel
theorem dX4_settle_15 : decode cX4_settle 15 = .ok (.iload_n 3, 1) := by decide +kernel
theorem dX4_settle_16 : decode cX4_settle 16 = .ok (.invokestatic 111, 3) := by decide +kernel
theorem dX4_settle_19 : decode cX4_settle 19 = .ok (.ifCond .ne 5, 3) := by decide +kernel
theorem dX4_settle_22 : decode cX4_settle 22 = .ok (.iconst (-1), 1) := by decide +kernel
theorem dX4_settle_23 : decode cX4_settle 23 = .ok (.ireturn, 1) := by decide +kernel
theorem dX4_settle_24 : decode cX4_settle 24 = .ok (.aload_n 0, 1) := by decide +kernel
theorem dX4_settle_25 : decode cX4_settle 25 = .ok (.getfield 22, 3) := by decide +kernel
theorem dX4_settle_28 : decode cX4_settle 28 = .ok (.aload_n 0, 1) := by decide +kernel
theorem dX4_settle_29 : decode cX4_settle 29 = .ok (.getfield 10, 3) := by decide +kernel
theorem dX4_settle_32 : decode cX4_settle 32 = .ok (.getfield 40, 3) := by decide +kernel
theorem dX4_settle_35 : decode cX4_settle 35 = .ok (.invokevirtual 44, 3) := by decide +kernel
theorem dX4_settle_38 : decode cX4_settle 38 = .ok (.aload_n 0, 1) := by decide +kernel
theorem dX4_settle_39 : decode cX4_settle 39 = .ok (.getfield 10, 3) := by decide +kernel
theorem dX4_settle_42 : decode cX4_settle 42 = .ok (.getfield 40, 3) := by decide +kernel
theorem dX4_settle_45 : decode cX4_settle 45 = .ok (.getfield 130, 3) := by decide +kernel
theorem dX4_settle_48 : decode cX4_settle 48 = .ok (.iload_n 1, 1) := by decide +kernel
theorem dX4_settle_49 : decode cX4_settle 49 = .ok (.iload_n 2, 1) := by decide +kernel
theorem dX4_settle_50 : decode cX4_settle 50 = .ok (.iastore, 1) := by decide +kernel
theorem dX4_settle_51 : decode cX4_settle 51 = .ok (.aload_n 0, 1) := by decide +kernel
theorem dX4_settle_52 : decode cX4_settle 52 = .ok (.getfield 10, 3) := by decide +kernel
theorem dX4_settle_55 : decode cX4_settle 55 = .ok (.getfield 40, 3) := by decide +kernel
theorem dX4_settle_58 : decode cX4_settle 58 = .ok (.getfield 133, 3) := by decide +kernel
theorem dX4_settle_61 : decode cX4_settle 61 = .ok (.iload_n 1, 1) := by decide +kernel
theorem dX4_settle_62 : decode cX4_settle 62 = .ok (.iload_n 3, 1) := by decide +kernel
theorem dX4_settle_63 : decode cX4_settle 63 = .ok (.iastore, 1) := by decide +kernel
theorem dX4_settle_64 : decode cX4_settle 64 = .ok (.aload_n 0, 1) := by decide +kernel
theorem dX4_settle_65 : decode cX4_settle 65 = .ok (.getfield 10, 3) := by decide +kernel
theorem dX4_settle_68 : decode cX4_settle 68 = .ok (.invokevirtual 33, 3) := by decide +kernel
theorem dX4_settle_71 : decode cX4_settle 71 = .ok (.aload_n 0, 1) := by decide +kernel
theorem dX4_settle_72 : decode cX4_settle 72 = .ok (.getfield 10, 3) := by decide +kernel
theorem dX4_settle_75 : decode cX4_settle 75 = .ok (.getfield 40, 3) := by decide +kernel
theorem dX4_settle_78 : decode cX4_settle 78 = .ok (.iload_n 1, 1) := by decide +kernel
theorem dX4_settle_79 : decode cX4_settle 79 = .ok (.invokevirtual 136, 3) := by decide +kernel
theorem dX4_settle_82 : decode cX4_settle 82 = .ok (.invokestatic 139, 3) := by decide +kernel
theorem dX4_settle_85 : decode cX4_settle 85 = .ok (.ireturn, 1) := by decide +kernel
theorem dX4_entry_0 : decode cX4_entry 0 = .ok (.aload_n 0, 1) := by decide +kernel
theorem dX4_entry_1 : decode cX4_entry 1 = .ok (.iload_n 1, 1) := by decide +kernel
theorem dX4_entry_2 : decode cX4_entry 2 = .ok (.invokevirtual 117, 3) := by decide +kernel
theorem dX4_entry_5 : decode cX4_entry 5 = .ok (.ifCond .ne 5, 3) := by decide +kernel
theorem dX4_entry_8 : decode cX4_entry 8 = .ok (.iconst (-1), 1) := by decide +kernel
theorem dX4_entry_9 : decode cX4_entry 9 = .ok (.ireturn, 1) := by decide +kernel
theorem dX4_entry_10 : decode cX4_entry 10 = .ok (.iload_n 2, 1) := by decide +kernel
theorem dX4_entry_11 : decode cX4_entry 11 = .ok (.tableswitch 142 0 7 #[45, 58, 71, 84, 97, 112, 124, 133], 45) := by decide +kernel
theorem dX4_entry_56 : decode cX4_entry 56 = .ok (.aload_n 0, 1) := by decide +kernel
theorem dX4_entry_57 : decode cX4_entry 57 = .ok (.getfield 10, 3) := by decide +kernel
theorem dX4_entry_60 : decode cX4_entry 60 = .ok (.getfield 40, 3) := by decide +kernel
theorem dX4_entry_63 : decode cX4_entry 63 = .ok (.getfield 123, 3) := by decide +kernel
theorem dX4_entry_66 : decode cX4_entry 66 = .ok (.iload_n 1, 1) := by decide +kernel
theorem dX4_entry_67 : decode cX4_entry 67 = .ok (.iaload, 1) := by decide +kernel
theorem dX4_entry_68 : decode cX4_entry 68 = .ok (.ireturn, 1) := by decide +kernel
theorem dX4_entry_69 : decode cX4_entry 69 = .ok (.aload_n 0, 1) := by decide +kernel
theorem dX4_entry_70 : decode cX4_entry 70 = .ok (.getfield 10, 3) := by decide +kernel
theorem dX4_entry_73 : decode cX4_entry 73 = .ok (.getfield 40, 3) := by decide +kernel
theorem dX4_entry_76 : decode cX4_entry 76 = .ok (.getfield 127, 3) := by decide +kernel
theorem dX4_entry_79 : decode cX4_entry 79 = .ok (.iload_n 1, 1) := by decide +kernel
theorem dX4_entry_80 : decode cX4_entry 80 = .ok (.iaload, 1) := by decide +kernel
theorem dX4_entry_81 : decode cX4_entry 81 = .ok (.ireturn, 1) := by decide +kernel
theorem dX4_entry_82 : decode cX4_entry 82 = .ok (.aload_n 0, 1) := by decide +kernel
theorem dX4_entry_83 : decode cX4_entry 83 = .ok (.getfield 10, 3) := by decide +kernel
theorem dX4_entry_86 : decode cX4_entry 86 = .ok (.getfield 40, 3) := by decide +kernel
theorem dX4_entry_89 : decode cX4_entry 89 = .ok (.getfield 130, 3) := by decide +kernel
theorem dX4_entry_92 : decode cX4_entry 92 = .ok (.iload_n 1, 1) := by decide +kernel
theorem dX4_entry_93 : decode cX4_entry 93 = .ok (.iaload, 1) := by decide +kernel
theorem dX4_entry_94 : decode cX4_entry 94 = .ok (.ireturn, 1) := by decide +kernel
theorem dX4_entry_95 : decode cX4_entry 95 = .ok (.aload_n 0, 1) := by decide +kernel
theorem dX4_entry_96 : decode cX4_entry 96 = .ok (.getfield 10, 3) := by decide +kernel
theorem dX4_entry_99 : decode cX4_entry 99 = .ok (.getfield 40, 3) := by decide +kernel
theorem dX4_entry_102 : decode cX4_entry 102 = .ok (.getfield 133, 3) := by decide +kernel
theorem dX4_entry_105 : decode cX4_entry 105 = .ok (.iload_n 1, 1) := by decide +kernel
theorem dX4_entry_106 : decode cX4_entry 106 = .ok (.iaload, 1) := by decide +kernel
theorem dX4_entry_107 : decode cX4_entry 107 = .ok (.ireturn, 1) := by decide +kernel
theorem dX4_entry_108 : decode cX4_entry 108 = .ok (.aload_n 0, 1) := by decide +kernel
theorem dX4_entry_109 : decode cX4_entry 109 = .ok (.getfield 10, 3) := by decide +kernel
theorem dX4_entry_112 : decode cX4_entry 112 = .ok (.getfield 40, 3) := by decide +kernel
theorem dX4_entry_115 : decode cX4_entry 115 = .ok (.iload_n 1, 1) := by decide +kernel
theorem dX4_entry_116 : decode cX4_entry 116 = .ok (.invokevirtual 136, 3) := by decide +kernel
theorem dX4_entry_119 : decode cX4_entry 119 = .ok (.invokestatic 139, 3) := by decide +kernel
theorem dX4_entry_122 : decode cX4_entry 122 = .ok (.ireturn, 1) := by decide +kernel
theorem dX4_entry_123 : decode cX4_entry 123 = .ok (.aload_n 0, 1) := by decide +kernel
theorem dX4_entry_124 : decode cX4_entry 124 = .ok (.getfield 10, 3) := by decide +kernel
theorem dX4_entry_127 : decode cX4_entry 127 = .ok (.getfield 40, 3) := by decide +kernel
theorem dX4_entry_130 : decode cX4_entry 130 = .ok (.iload_n 1, 1) := by decide +kernel
theorem dX4_entry_131 : decode cX4_entry 131 = .ok (.invokevirtual 143, 3) := by decide +kernel
theorem dX4_entry_134 : decode cX4_entry 134 = .ok (.ireturn, 1) := by decide +kernel
theorem dX4_entry_135 : decode cX4_entry 135 = .ok (.aload_n 0, 1) := by decide +kernel
theorem dX4_entry_136 : decode cX4_entry 136 = .ok (.getfield 10, 3) := by decide +kernel
theorem dX4_entry_139 : decode cX4_entry 139 = .ok (.iload_n 1, 1) := by decide +kernel
theorem dX4_entry_140 : decode cX4_entry 140 = .ok (.invokevirtual 146, 3) := by decide +kernel
theorem dX4_entry_143 : decode cX4_entry 143 = .ok (.ireturn, 1) := by decide +kernel
theorem dX4_entry_144 : decode cX4_entry 144 = .ok (.aload_n 0, 1) := by decide +kernel
theorem dX4_entry_145 : decode cX4_entry 145 = .ok (.getfield 10, 3) := by decide +kernel
theorem dX4_entry_148 : decode cX4_entry 148 = .ok (.iload_n 1, 1) := by decide +kernel
theorem dX4_entry_149 : decode cX4_entry 149 = .ok (.invokevirtual 149, 3) := by decide +kernel
theorem dX4_entry_152 : decode cX4_entry 152 = .ok (.ireturn, 1) := by decide +kernel
theorem dX4_entry_153 : decode cX4_entry 153 = .ok (.iconst (-1), 1) := by decide +kernel
theorem dX4_entry_154 : decode cX4_entry 154 = .ok (.ireturn, 1) := by decide +kernel
theorem dX4_bar_0 : decode cX4_bar 0 = .ok (.aload_n 0, 1) := by decide +kernel
theorem dX4_bar_1 : decode cX4_bar 1 = .ok (.iload_n 1, 1) := by decide +kernel
theorem dX4_bar_2 : decode cX4_bar 2 = .ok (.invokevirtual 117, 3) := by decide +kernel
theorem dX4_bar_5 : decode cX4_bar 5 = .ok (.ifCond .eq 16, 3) := by decide +kernel
theorem dX4_bar_8 : decode cX4_bar 8 = .ok (.iload_n 2, 1) := by decide +kernel
theorem dX4_bar_9 : decode cX4_bar 9 = .ok (.ifCond .lt 12, 3) := by decide +kernel
theorem dX4_bar_12 : decode cX4_bar 12 = .ok (.iload_n 3, 1) := by decide +kernel
theorem dX4_bar_13 : decode cX4_bar 13 = .ok (.iconst 0, 1) := by decide +kernel
theorem dX4_bar_14 : decode cX4_bar 14 = .ok (.iconst 4, 1) := by decide +kernel
theorem dX4_bar_15 : decode cX4_bar 15 = .ok (.invokestatic 60, 3) := by decide +kernel
theorem dX4_bar_18 : decode cX4_bar 18 = .ok (.ifCond .ne 5, 3) := by decide +kernel
theorem dX4_bar_21 : decode cX4_bar 21 = .ok (.iconst (-1), 1) := by decide +kernel
theorem dX4_bar_22 : decode cX4_bar 22 = .ok (.ireturn, 1) := by decide +kernel
theorem dX4_bar_23 : decode cX4_bar 23 = .ok (.iload_n 2, 1) := by decide +kernel
theorem dX4_bar_24 : decode cX4_bar 24 = .ok (.aload_n 0, 1) := by decide +kernel
theorem dX4_bar_25 : decode cX4_bar 25 = .ok (.getfield 10, 3) := by decide +kernel
theorem dX4_bar_28 : decode cX4_bar 28 = .ok (.getfield 57, 3) := by decide +kernel
theorem dX4_bar_31 : decode cX4_bar 31 = .ok (.if_icmp .ge 19, 3) := by decide +kernel
theorem dX4_bar_34 : decode cX4_bar 34 = .ok (.aload_n 0, 1) := by decide +kernel
theorem dX4_bar_35 : decode cX4_bar 35 = .ok (.getfield 10, 3) := by decide +kernel
theorem dX4_bar_38 : decode cX4_bar 38 = .ok (.getfield 152, 3) := by decide +kernel
theorem dX4_bar_41 : decode cX4_bar 41 = .ok (.iload_n 1, 1) := by decide +kernel
theorem dX4_bar_42 : decode cX4_bar 42 = .ok (.aaload, 1) := by decide +kernel
theorem dX4_bar_43 : decode cX4_bar 43 = .ok (.iload_n 2, 1) := by decide +kernel
theorem dX4_bar_44 : decode cX4_bar 44 = .ok (.iaload, 1) := by decide +kernel
theorem dX4_bar_45 : decode cX4_bar 45 = .ok (.bipush (-9), 2) := by decide +kernel
theorem dX4_bar_47 : decode cX4_bar 47 = .ok (.if_icmp .ne 6, 3) := by decide +kernel
theorem dX4_bar_50 : decode cX4_bar 50 = .ok (.bipush (-9), 2) := by decide +kernel
theorem dX4_bar_52 : decode cX4_bar 52 = .ok (.ireturn, 1) := by decide +kernel
theorem dX4_bar_53 : decode cX4_bar 53 = .ok (.aload_n 0, 1) := by decide +kernel
theorem dX4_bar_54 : decode cX4_bar 54 = .ok (.getfield 10, 3) := by decide +kernel
theorem dX4_bar_57 : decode cX4_bar 57 = .ok (.iload_n 2, 1) := by decide +kernel
theorem dX4_bar_58 : decode cX4_bar 58 = .ok (.invokevirtual 70, 3) := by decide +kernel
theorem dX4_bar_61 : decode cX4_bar 61 = .ok (.istore 4, 2) := by decide +kernel
theorem dX4_bar_63 : decode cX4_bar 63 = .ok (.aload_n 0, 1) := by decide +kernel
theorem dX4_bar_64 : decode cX4_bar 64 = .ok (.getfield 10, 3) := by decide +kernel
theorem dX4_bar_67 : decode cX4_bar 67 = .ok (.iload_n 2, 1) := by decide +kernel
theorem dX4_bar_68 : decode cX4_bar 68 = .ok (.invokevirtual 74, 3) := by decide +kernel
theorem dX4_bar_71 : decode cX4_bar 71 = .ok (.istore 5, 2) := by decide +kernel
theorem dX4_bar_73 : decode cX4_bar 73 = .ok (.iload_n 3, 1) := by decide +kernel
theorem dX4_bar_74 : decode cX4_bar 74 = .ok (.tableswitch 104 0 3 #[30, 42, 60, 78], 30) := by decide +kernel
theorem dX4_bar_104 : decode cX4_bar 104 = .ok (.aload_n 0, 1) := by decide +kernel
theorem dX4_bar_105 : decode cX4_bar 105 = .ok (.getfield 10, 3) := by decide +kernel
theorem dX4_bar_108 : decode cX4_bar 108 = .ok (.getfield 152, 3) := by decide +kernel
theorem dX4_bar_111 : decode cX4_bar 111 = .ok (.iload_n 1, 1) := by decide +kernel
theorem dX4_bar_112 : decode cX4_bar 112 = .ok (.aaload, 1) := by decide +kernel
theorem dX4_bar_113 : decode cX4_bar 113 = .ok (.iload_n 2, 1) := by decide +kernel
theorem dX4_bar_114 : decode cX4_bar 114 = .ok (.iaload, 1) := by decide +kernel
theorem dX4_bar_115 : decode cX4_bar 115 = .ok (.ireturn, 1) := by decide +kernel
theorem dX4_bar_116 : decode cX4_bar 116 = .ok (.aload_n 0, 1) := by decide +kernel
theorem dX4_bar_117 : decode cX4_bar 117 = .ok (.getfield 10, 3) := by decide +kernel
theorem dX4_bar_120 : decode cX4_bar 120 = .ok (.getfield 40, 3) := by decide +kernel
theorem dX4_bar_123 : decode cX4_bar 123 = .ok (.getfield 123, 3) := by decide +kernel
theorem dX4_bar_126 : decode cX4_bar 126 = .ok (.iload_n 1, 1) := by decide +kernel
theorem dX4_bar_127 : decode cX4_bar 127 = .ok (.iaload, 1) := by decide +kernel
theorem dX4_bar_128 : decode cX4_bar 128 = .ok (.iload 4, 2) := by decide +kernel
theorem dX4_bar_130 : decode cX4_bar 130 = .ok (.invokestatic 156, 3) := by decide +kernel
theorem dX4_bar_133 : decode cX4_bar 133 = .ok (.ireturn, 1) := by decide +kernel
theorem dX4_bar_134 : decode cX4_bar 134 = .ok (.aload_n 0, 1) := by decide +kernel
theorem dX4_bar_135 : decode cX4_bar 135 = .ok (.getfield 10, 3) := by decide +kernel
theorem dX4_bar_138 : decode cX4_bar 138 = .ok (.getfield 40, 3) := by decide +kernel
theorem dX4_bar_141 : decode cX4_bar 141 = .ok (.getfield 127, 3) := by decide +kernel
theorem dX4_bar_144 : decode cX4_bar 144 = .ok (.iload_n 1, 1) := by decide +kernel
theorem dX4_bar_145 : decode cX4_bar 145 = .ok (.iaload, 1) := by decide +kernel
theorem dX4_bar_146 : decode cX4_bar 146 = .ok (.iload 5, 2) := by decide +kernel
theorem dX4_bar_148 : decode cX4_bar 148 = .ok (.invokestatic 161, 3) := by decide +kernel
theorem dX4_bar_151 : decode cX4_bar 151 = .ok (.ireturn, 1) := by decide +kernel
theorem dX4_bar_152 : decode cX4_bar 152 = .ok (.aload_n 0, 1) := by decide +kernel
theorem dX4_bar_153 : decode cX4_bar 153 = .ok (.getfield 10, 3) := by decide +kernel
theorem dX4_bar_156 : decode cX4_bar 156 = .ok (.getfield 40, 3) := by decide +kernel
theorem dX4_bar_159 : decode cX4_bar 159 = .ok (.getfield 123, 3) := by decide +kernel
theorem dX4_bar_162 : decode cX4_bar 162 = .ok (.iload_n 1, 1) := by decide +kernel
theorem dX4_bar_163 : decode cX4_bar 163 = .ok (.iaload, 1) := by decide +kernel
theorem dX4_bar_164 : decode cX4_bar 164 = .ok (.iload 4, 2) := by decide +kernel
theorem dX4_bar_166 : decode cX4_bar 166 = .ok (.if_icmp .ge 7, 3) := by decide +kernel
theorem dX4_bar_169 : decode cX4_bar 169 = .ok (.iconst 1, 1) := by decide +kernel
theorem dX4_bar_170 : decode cX4_bar 170 = .ok (.goto 4, 3) := by decide +kernel
theorem dX4_bar_173 : decode cX4_bar 173 = .ok (.iconst 0, 1) := by decide +kernel
theorem dX4_bar_174 : decode cX4_bar 174 = .ok (.invokestatic 139, 3) := by decide +kernel
theorem dX4_bar_177 : decode cX4_bar 177 = .ok (.ireturn, 1) := by decide +kernel
theorem dX4_bar_178 : decode cX4_bar 178 = .ok (.aload_n 0, 1) := by decide +kernel
theorem dX4_bar_179 : decode cX4_bar 179 = .ok (.getfield 10, 3) := by decide +kernel
theorem dX4_bar_182 : decode cX4_bar 182 = .ok (.getfield 40, 3) := by decide +kernel
theorem dX4_bar_185 : decode cX4_bar 185 = .ok (.getfield 127, 3) := by decide +kernel
theorem dX4_bar_188 : decode cX4_bar 188 = .ok (.iload_n 1, 1) := by decide +kernel
theorem dX4_bar_189 : decode cX4_bar 189 = .ok (.iaload, 1) := by decide +kernel
theorem dX4_bar_190 : decode cX4_bar 190 = .ok (.iload 5, 2) := by decide +kernel
theorem dX4_bar_192 : decode cX4_bar 192 = .ok (.if_icmp .le 7, 3) := by decide +kernel
theorem dX4_bar_195 : decode cX4_bar 195 = .ok (.iconst 1, 1) := by decide +kernel
theorem dX4_bar_196 : decode cX4_bar 196 = .ok (.goto 4, 3) := by decide +kernel
theorem dX4_bar_199 : decode cX4_bar 199 = .ok (.iconst 0, 1) := by decide +kernel
theorem dX4_bar_200 : decode cX4_bar 200 = .ok (.invokestatic 139, 3) := by decide +kernel
theorem dX4_bar_203 : decode cX4_bar 203 = .ok (.ireturn, 1) := by decide +kernel
theorem dX4_shown_0 : decode cX4_shown 0 = .ok (.aload_n 0, 1) := by decide +kernel
theorem dX4_shown_1 : decode cX4_shown 1 = .ok (.iload_n 1, 1) := by decide +kernel
theorem dX4_shown_2 : decode cX4_shown 2 = .ok (.invokevirtual 164, 3) := by decide +kernel
theorem dX4_shown_5 : decode cX4_shown 5 = .ok (.ifCond .eq 13, 3) := by decide +kernel
theorem dX4_shown_8 : decode cX4_shown 8 = .ok (.iload_n 2, 1) := by decide +kernel
theorem dX4_shown_9 : decode cX4_shown 9 = .ok (.iconst 0, 1) := by decide +kernel
theorem dX4_shown_10 : decode cX4_shown 10 = .ok (.bipush 11, 2) := by decide +kernel
theorem dX4_shown_12 : decode cX4_shown 12 = .ok (.invokestatic 60, 3) := by decide +kernel
theorem dX4_shown_15 : decode cX4_shown 15 = .ok (.ifCond .ne 5, 3) := by decide +kernel
theorem dX4_shown_18 : decode cX4_shown 18 = .ok (.iconst (-1), 1) := by decide +kernel
theorem dX4_shown_19 : decode cX4_shown 19 = .ok (.ireturn, 1) := by decide +kernel
theorem dX4_shown_20 : decode cX4_shown 20 = .ok (.aload_n 0, 1) := by decide +kernel
theorem dX4_shown_21 : decode cX4_shown 21 = .ok (.getfield 10, 3) := by decide +kernel
theorem dX4_shown_24 : decode cX4_shown 24 = .ok (.getfield 40, 3) := by decide +kernel
theorem dX4_shown_27 : decode cX4_shown 27 = .ok (.getfield 67, 3) := by decide +kernel
theorem dX4_shown_30 : decode cX4_shown 30 = .ok (.istore_n 3, 1) := by decide +kernel
theorem dX4_shown_31 : decode cX4_shown 31 = .ok (.iload_n 2, 1) := by decide +kernel
theorem dX4_shown_32 : decode cX4_shown 32 = .ok (.iload_n 3, 1) := by decide +kernel
theorem dX4_shown_33 : decode cX4_shown 33 = .ok (.if_icmp .lt 6, 3) := by decide +kernel
theorem dX4_shown_36 : decode cX4_shown 36 = .ok (.bipush (-9), 2) := by decide +kernel
theorem dX4_shown_38 : decode cX4_shown 38 = .ok (.ireturn, 1) := by decide +kernel
theorem dX4_shown_39 : decode cX4_shown 39 = .ok (.aload_n 0, 1) := by decide +kernel
theorem dX4_shown_40 : decode cX4_shown 40 = .ok (.getfield 10, 3) := by decide +kernel
theorem dX4_shown_43 : decode cX4_shown 43 = .ok (.iload_n 1, 1) := by decide +kernel
theorem dX4_shown_44 : decode cX4_shown 44 = .ok (.iload_n 3, 1) := by decide +kernel
theorem dX4_shown_45 : decode cX4_shown 45 = .ok (.invokevirtual 167, 3) := by decide +kernel
theorem dX4_shown_48 : decode cX4_shown 48 = .ok (.istore 4, 2) := by decide +kernel
theorem dX4_shown_50 : decode cX4_shown 50 = .ok (.iload 4, 2) := by decide +kernel
theorem dX4_shown_52 : decode cX4_shown 52 = .ok (.ifCond .le 16, 3) := by decide +kernel
theorem dX4_shown_55 : decode cX4_shown 55 = .ok (.iload_n 2, 1) := by decide +kernel
theorem dX4_shown_56 : decode cX4_shown 56 = .ok (.iload_n 3, 1) := by decide +kernel
theorem dX4_shown_57 : decode cX4_shown 57 = .ok (.iconst 1, 1) := by decide +kernel
theorem dX4_shown_58 : decode cX4_shown 58 = .ok (.isub, 1) := by decide +kernel
theorem dX4_shown_59 : decode cX4_shown 59 = .ok (.if_icmp .ne 9, 3) := by decide +kernel
theorem dX4_shown_62 : decode cX4_shown 62 = .ok (.bipush (-10), 2) := by decide +kernel
theorem dX4_shown_64 : decode cX4_shown 64 = .ok (.iload 4, 2) := by decide +kernel
theorem dX4_shown_66 : decode cX4_shown 66 = .ok (.isub, 1) := by decide +kernel
theorem dX4_shown_67 : decode cX4_shown 67 = .ok (.ireturn, 1) := by decide +kernel
theorem dX4_shown_68 : decode cX4_shown 68 = .ok (.aload_n 0, 1) := by decide +kernel
theorem dX4_shown_69 : decode cX4_shown 69 = .ok (.getfield 10, 3) := by decide +kernel
theorem dX4_shown_72 : decode cX4_shown 72 = .ok (.iload_n 1, 1) := by decide +kernel
theorem dX4_shown_73 : decode cX4_shown 73 = .ok (.iload_n 2, 1) := by decide +kernel
theorem dX4_shown_74 : decode cX4_shown 74 = .ok (.invokevirtual 170, 3) := by decide +kernel
theorem dX4_shown_77 : decode cX4_shown 77 = .ok (.ireturn, 1) := by decide +kernel
theorem dX4_rowOf_0 : decode cX4_rowOf 0 = .ok (.aload_n 0, 1) := by decide +kernel
theorem dX4_rowOf_1 : decode cX4_rowOf 1 = .ok (.iload_n 1, 1) := by decide +kernel
theorem dX4_rowOf_2 : decode cX4_rowOf 2 = .ok (.invokevirtual 117, 3) := by decide +kernel
theorem dX4_rowOf_5 : decode cX4_rowOf 5 = .ok (.ifCond .eq 11, 3) := by decide +kernel
theorem dX4_rowOf_8 : decode cX4_rowOf 8 = .ok (.aload_n 0, 1) := by decide +kernel
theorem dX4_rowOf_9 : decode cX4_rowOf 9 = .ok (.iload_n 2, 1) := by decide +kernel
theorem dX4_rowOf_10 : decode cX4_rowOf 10 = .ok (.invokevirtual 164, 3) := by decide +kernel
theorem dX4_rowOf_13 : decode cX4_rowOf 13 = .ok (.ifCond .ne 5, 3) := by decide +kernel
theorem dX4_rowOf_16 : decode cX4_rowOf 16 = .ok (.iconst (-1), 1) := by decide +kernel
theorem dX4_rowOf_17 : decode cX4_rowOf 17 = .ok (.ireturn, 1) := by decide +kernel
theorem dX4_rowOf_18 : decode cX4_rowOf 18 = .ok (.aload_n 0, 1) := by decide +kernel
theorem dX4_rowOf_19 : decode cX4_rowOf 19 = .ok (.getfield 10, 3) := by decide +kernel
theorem dX4_rowOf_22 : decode cX4_rowOf 22 = .ok (.iload_n 1, 1) := by decide +kernel
theorem dX4_rowOf_23 : decode cX4_rowOf 23 = .ok (.iload_n 2, 1) := by decide +kernel
theorem dX4_rowOf_24 : decode cX4_rowOf 24 = .ok (.invokevirtual 173, 3) := by decide +kernel
theorem dX4_rowOf_27 : decode cX4_rowOf 27 = .ok (.ireturn, 1) := by decide +kernel
theorem dX4_day_0 : decode cX4_day 0 = .ok (.aload_n 0, 1) := by decide +kernel
theorem dX4_day_1 : decode cX4_day 1 = .ok (.iload_n 1, 1) := by decide +kernel
theorem dX4_day_2 : decode cX4_day 2 = .ok (.invokevirtual 164, 3) := by decide +kernel
theorem dX4_day_5 : decode cX4_day 5 = .ok (.ifCond .ne 5, 3) := by decide +kernel
theorem dX4_day_8 : decode cX4_day 8 = .ok (.iconst (-1), 1) := by decide +kernel
theorem dX4_day_9 : decode cX4_day 9 = .ok (.ireturn, 1) := by decide +kernel
theorem dX4_day_10 : decode cX4_day 10 = .ok (.iload_n 2, 1) := by decide +kernel
theorem dX4_day_11 : decode cX4_day 11 = .ok (.tableswitch 104 0 5 #[37, 46, 51, 63, 76, 95], 37) := by decide +kernel
theorem dX4_day_48 : decode cX4_day 48 = .ok (.aload_n 0, 1) := by decide +kernel
theorem dX4_day_49 : decode cX4_day 49 = .ok (.getfield 10, 3) := by decide +kernel
theorem dX4_day_52 : decode cX4_day 52 = .ok (.iload_n 1, 1) := by decide +kernel
theorem dX4_day_53 : decode cX4_day 53 = .ok (.invokevirtual 176, 3) := by decide +kernel
theorem dX4_day_56 : decode cX4_day 56 = .ok (.ireturn, 1) := by decide +kernel
theorem dX4_day_57 : decode cX4_day 57 = .ok (.iload_n 1, 1) := by decide +kernel
theorem dX4_day_58 : decode cX4_day 58 = .ok (.bipush 7, 2) := by decide +kernel
theorem dX4_day_60 : decode cX4_day 60 = .ok (.irem, 1) := by decide +kernel
theorem dX4_day_61 : decode cX4_day 61 = .ok (.ireturn, 1) := by decide +kernel
theorem dX4_day_62 : decode cX4_day 62 = .ok (.aload_n 0, 1) := by decide +kernel
theorem dX4_day_63 : decode cX4_day 63 = .ok (.getfield 10, 3) := by decide +kernel
theorem dX4_day_66 : decode cX4_day 66 = .ok (.getfield 40, 3) := by decide +kernel
theorem dX4_day_69 : decode cX4_day 69 = .ok (.iload_n 1, 1) := by decide +kernel
theorem dX4_day_70 : decode cX4_day 70 = .ok (.invokevirtual 179, 3) := by decide +kernel
theorem dX4_day_73 : decode cX4_day 73 = .ok (.ireturn, 1) := by decide +kernel
theorem dX4_day_74 : decode cX4_day 74 = .ok (.aload_n 0, 1) := by decide +kernel
theorem dX4_day_75 : decode cX4_day 75 = .ok (.getfield 10, 3) := by decide +kernel
theorem dX4_day_78 : decode cX4_day 78 = .ok (.getfield 40, 3) := by decide +kernel
theorem dX4_day_81 : decode cX4_day 81 = .ok (.iload_n 1, 1) := by decide +kernel
theorem dX4_day_82 : decode cX4_day 82 = .ok (.iload_n 1, 1) := by decide +kernel
theorem dX4_day_83 : decode cX4_day 83 = .ok (.invokevirtual 83, 3) := by decide +kernel
theorem dX4_day_86 : decode cX4_day 86 = .ok (.ireturn, 1) := by decide +kernel
theorem dX4_day_87 : decode cX4_day 87 = .ok (.aload_n 0, 1) := by decide +kernel
theorem dX4_day_88 : decode cX4_day 88 = .ok (.getfield 10, 3) := by decide +kernel
theorem dX4_day_91 : decode cX4_day 91 = .ok (.iload_n 1, 1) := by decide +kernel
theorem dX4_day_92 : decode cX4_day 92 = .ok (.aload_n 0, 1) := by decide +kernel
theorem dX4_day_93 : decode cX4_day 93 = .ok (.getfield 10, 3) := by decide +kernel
theorem dX4_day_96 : decode cX4_day 96 = .ok (.getfield 40, 3) := by decide +kernel
theorem dX4_day_99 : decode cX4_day 99 = .ok (.getfield 67, 3) := by decide +kernel
theorem dX4_day_102 : decode cX4_day 102 = .ok (.invokevirtual 167, 3) := by decide +kernel
theorem dX4_day_105 : decode cX4_day 105 = .ok (.ireturn, 1) := by decide +kernel
theorem dX4_day_106 : decode cX4_day 106 = .ok (.aload_n 0, 1) := by decide +kernel
theorem dX4_day_107 : decode cX4_day 107 = .ok (.getfield 10, 3) := by decide +kernel
theorem dX4_day_110 : decode cX4_day 110 = .ok (.iload_n 1, 1) := by decide +kernel
theorem dX4_day_111 : decode cX4_day 111 = .ok (.invokevirtual 182, 3) := by decide +kernel
theorem dX4_day_114 : decode cX4_day 114 = .ok (.ireturn, 1) := by decide +kernel
theorem dX4_day_115 : decode cX4_day 115 = .ok (.iconst (-1), 1) := by decide +kernel
theorem dX4_day_116 : decode cX4_day 116 = .ok (.ireturn, 1) := by decide +kernel
theorem dX4_enough_0 : decode cX4_enough 0 = .ok (.iconst 1, 1) := by decide +kernel
theorem dX4_enough_1 : decode cX4_enough 1 = .ok (.istore_n 1, 1) := by decide +kernel
theorem dX4_enough_2 : decode cX4_enough 2 = .ok (.aload_n 0, 1) := by decide +kernel
theorem dX4_enough_3 : decode cX4_enough 3 = .ok (.getfield 10, 3) := by decide +kernel
theorem dX4_enough_6 : decode cX4_enough 6 = .ok (.getfield 40, 3) := by decide +kernel
theorem dX4_enough_9 : decode cX4_enough 9 = .ok (.getfield 48, 3) := by decide +kernel
theorem dX4_enough_12 : decode cX4_enough 12 = .ok (.istore_n 2, 1) := by decide +kernel
theorem dX4_enough_13 : decode cX4_enough 13 = .ok (.iload_n 2, 1) := by decide +kernel
theorem dX4_enough_14 : decode cX4_enough 14 = .ok (.aload_n 0, 1) := by decide +kernel
theorem dX4_enough_15 : decode cX4_enough 15 = .ok (.getfield 10, 3) := by decide +kernel
theorem dX4_enough_18 : decode cX4_enough 18 = .ok (.getfield 40, 3) := by decide +kernel
theorem dX4_enough_21 : decode cX4_enough 21 = .ok (.getfield 54, 3) := by decide +kernel
theorem dX4_enough_24 : decode cX4_enough 24 = .ok (.if_icmp .gt 22, 3) := by decide +kernel
theorem dX4_enough_27 : decode cX4_enough 27 = .ok (.iload_n 1, 1) := by decide +kernel
theorem dX4_enough_28 : decode cX4_enough 28 = .ok (.aload_n 0, 1) := by decide +kernel
theorem dX4_enough_29 : decode cX4_enough 29 = .ok (.getfield 10, 3) := by decide +kernel
theorem dX4_enough_32 : decode cX4_enough 32 = .ok (.iload_n 2, 1) := by decide +kernel
theorem dX4_enough_33 : decode cX4_enough 33 = .ok (.invokevirtual 182, 3) := by decide +kernel
theorem dX4_enough_36 : decode cX4_enough 36 = .ok (.invokestatic 156, 3) := by decide +kernel
theorem dX4_enough_39 : decode cX4_enough 39 = .ok (.istore_n 1, 1) := by decide +kernel
theorem dX4_enough_40 : decode cX4_enough 40 = .ok (.iinc 2 1, 3) := by decide +kernel
theorem dX4_enough_43 : decode cX4_enough 43 = .ok (.goto (-30), 3) := by decide +kernel
theorem dX4_enough_46 : decode cX4_enough 46 = .ok (.iload_n 1, 1) := by decide +kernel
theorem dX4_enough_47 : decode cX4_enough 47 = .ok (.ireturn, 1) := by decide +kernel
theorem dX4_ifRows_0 : decode cX4_ifRows 0 = .ok (.iload_n 1, 1) := by decide +kernel
theorem dX4_ifRows_1 : decode cX4_ifRows 1 = .ok (.iconst 1, 1) := by decide +kernel
theorem dX4_ifRows_2 : decode cX4_ifRows 2 = .ok (.bipush 12, 2) := by decide +kernel
theorem dX4_ifRows_4 : decode cX4_ifRows 4 = .ok (.invokestatic 60, 3) := by decide +kernel
theorem dX4_ifRows_7 : decode cX4_ifRows 7 = .ok (.ifCond .ne 5, 3) := by decide +kernel
theorem dX4_ifRows_10 : decode cX4_ifRows 10 = .ok (.iconst (-1), 1) := by decide +kernel
theorem dX4_ifRows_11 : decode cX4_ifRows 11 = .ok (.ireturn, 1) := by decide +kernel
theorem dX4_ifRows_12 : decode cX4_ifRows 12 = .ok (.aload_n 0, 1) := by decide +kernel
theorem dX4_ifRows_13 : decode cX4_ifRows 13 = .ok (.getfield 10, 3) := by decide +kernel
theorem dX4_ifRows_16 : decode cX4_ifRows 16 = .ok (.iload_n 1, 1) := by decide +kernel
theorem dX4_ifRows_17 : decode cX4_ifRows 17 = .ok (.invokevirtual 185, 3) := by decide +kernel
theorem dX4_ifRows_20 : decode cX4_ifRows 20 = .ok (.ireturn, 1) := by decide +kernel
theorem dX4_free_0 : decode cX4_free 0 = .ok (.iload_n 1, 1) := by decide +kernel
theorem dX4_free_1 : decode cX4_free 1 = .ok (.iconst 1, 1) := by decide +kernel
theorem dX4_free_2 : decode cX4_free 2 = .ok (.bipush 42, 2) := by decide +kernel
theorem dX4_free_4 : decode cX4_free 4 = .ok (.invokestatic 60, 3) := by decide +kernel
theorem dX4_free_7 : decode cX4_free 7 = .ok (.ifCond .ne 5, 3) := by decide +kernel
theorem dX4_free_10 : decode cX4_free 10 = .ok (.iconst (-1), 1) := by decide +kernel
theorem dX4_free_11 : decode cX4_free 11 = .ok (.ireturn, 1) := by decide +kernel
theorem dX4_free_12 : decode cX4_free 12 = .ok (.aload_n 0, 1) := by decide +kernel
theorem dX4_free_13 : decode cX4_free 13 = .ok (.getfield 10, 3) := by decide +kernel
theorem dX4_free_16 : decode cX4_free 16 = .ok (.getfield 40, 3) := by decide +kernel
theorem dX4_free_19 : decode cX4_free 19 = .ok (.getfield 48, 3) := by decide +kernel
theorem dX4_free_22 : decode cX4_free 22 = .ok (.istore_n 3, 1) := by decide +kernel
theorem dX4_free_23 : decode cX4_free 23 = .ok (.iload_n 3, 1) := by decide +kernel
theorem dX4_free_24 : decode cX4_free 24 = .ok (.iload_n 1, 1) := by decide +kernel
theorem dX4_free_25 : decode cX4_free 25 = .ok (.iadd, 1) := by decide +kernel
theorem dX4_free_26 : decode cX4_free 26 = .ok (.iconst 1, 1) := by decide +kernel
theorem dX4_free_27 : decode cX4_free 27 = .ok (.isub, 1) := by decide +kernel
theorem dX4_free_28 : decode cX4_free 28 = .ok (.aload_n 0, 1) := by decide +kernel
theorem dX4_free_29 : decode cX4_free 29 = .ok (.getfield 10, 3) := by decide +kernel
theorem dX4_free_32 : decode cX4_free 32 = .ok (.getfield 40, 3) := by decide +kernel
theorem dX4_free_35 : decode cX4_free 35 = .ok (.getfield 54, 3) := by decide +kernel
theorem dX4_free_38 : decode cX4_free 38 = .ok (.if_icmp .gt 67, 3) := by decide +kernel
theorem dX4_free_41 : decode cX4_free 41 = .ok (.iload_n 3, 1) := by decide +kernel
theorem dX4_free_42 : decode cX4_free 42 = .ok (.iload_n 1, 1) := by decide +kernel
theorem dX4_free_43 : decode cX4_free 43 = .ok (.iadd, 1) := by decide +kernel
theorem dX4_free_44 : decode cX4_free 44 = .ok (.iconst 1, 1) := by decide +kernel
theorem dX4_free_45 : decode cX4_free 45 = .ok (.isub, 1) := by decide +kernel
theorem dX4_free_46 : decode cX4_free 46 = .ok (.istore 4, 2) := by decide +kernel
theorem dX4_free_48 : decode cX4_free 48 = .ok (.iload_n 2, 1) := by decide +kernel
theorem dX4_free_49 : decode cX4_free 49 = .ok (.ifCond .eq 23, 3) := by decide +kernel
theorem dX4_free_52 : decode cX4_free 52 = .ok (.aload_n 0, 1) := by decide +kernel
theorem dX4_free_53 : decode cX4_free 53 = .ok (.getfield 10, 3) := by decide +kernel
theorem dX4_free_56 : decode cX4_free 56 = .ok (.iload_n 3, 1) := by decide +kernel
theorem dX4_free_57 : decode cX4_free 57 = .ok (.invokevirtual 176, 3) := by decide +kernel
theorem dX4_free_60 : decode cX4_free 60 = .ok (.aload_n 0, 1) := by decide +kernel
theorem dX4_free_61 : decode cX4_free 61 = .ok (.getfield 10, 3) := by decide +kernel
theorem dX4_free_64 : decode cX4_free 64 = .ok (.iload 4, 2) := by decide +kernel
theorem dX4_free_66 : decode cX4_free 66 = .ok (.invokevirtual 176, 3) := by decide +kernel
theorem dX4_free_69 : decode cX4_free 69 = .ok (.if_icmp .ne 7, 3) := by decide +kernel
theorem dX4_free_72 : decode cX4_free 72 = .ok (.iconst 1, 1) := by decide +kernel
theorem dX4_free_73 : decode cX4_free 73 = .ok (.goto 4, 3) := by decide +kernel
theorem dX4_free_76 : decode cX4_free 76 = .ok (.iconst 0, 1) := by decide +kernel
theorem dX4_free_77 : decode cX4_free 77 = .ok (.istore 5, 2) := by decide +kernel
theorem dX4_free_79 : decode cX4_free 79 = .ok (.iload 5, 2) := by decide +kernel
theorem dX4_free_81 : decode cX4_free 81 = .ok (.ifCond .eq 18, 3) := by decide +kernel
theorem dX4_free_84 : decode cX4_free 84 = .ok (.aload_n 0, 1) := by decide +kernel
theorem dX4_free_85 : decode cX4_free 85 = .ok (.getfield 10, 3) := by decide +kernel
theorem dX4_free_88 : decode cX4_free 88 = .ok (.iload_n 3, 1) := by decide +kernel
theorem dX4_free_89 : decode cX4_free 89 = .ok (.iload 4, 2) := by decide +kernel
theorem dX4_free_91 : decode cX4_free 91 = .ok (.invokevirtual 188, 3) := by decide +kernel
theorem dX4_free_94 : decode cX4_free 94 = .ok (.ifCond .eq 5, 3) := by decide +kernel
theorem dX4_free_97 : decode cX4_free 97 = .ok (.iload_n 3, 1) := by decide +kernel
theorem dX4_free_98 : decode cX4_free 98 = .ok (.ireturn, 1) := by decide +kernel
theorem dX4_free_99 : decode cX4_free 99 = .ok (.iinc 3 1, 3) := by decide +kernel
theorem dX4_free_102 : decode cX4_free 102 = .ok (.goto (-79), 3) := by decide +kernel
theorem dX4_free_105 : decode cX4_free 105 = .ok (.bipush (-9), 2) := by decide +kernel
theorem dX4_free_107 : decode cX4_free 107 = .ok (.ireturn, 1) := by decide +kernel
theorem dX4_bestDay_0 : decode cX4_bestDay 0 = .ok (.aload_n 0, 1) := by decide +kernel
theorem dX4_bestDay_1 : decode cX4_bestDay 1 = .ok (.iload_n 1, 1) := by decide +kernel
theorem dX4_bestDay_2 : decode cX4_bestDay 2 = .ok (.invokevirtual 117, 3) := by decide +kernel
theorem dX4_bestDay_5 : decode cX4_bestDay 5 = .ok (.ifCond .ne 5, 3) := by decide +kernel
theorem dX4_bestDay_8 : decode cX4_bestDay 8 = .ok (.iconst (-1), 1) := by decide +kernel
theorem dX4_bestDay_9 : decode cX4_bestDay 9 = .ok (.ireturn, 1) := by decide +kernel
theorem dX4_bestDay_10 : decode cX4_bestDay 10 = .ok (.aload_n 0, 1) := by decide +kernel
theorem dX4_bestDay_11 : decode cX4_bestDay 11 = .ok (.getfield 16, 3) := by decide +kernel
theorem dX4_bestDay_14 : decode cX4_bestDay 14 = .ok (.getfield 40, 3) := by decide +kernel
theorem dX4_bestDay_17 : decode cX4_bestDay 17 = .ok (.astore_n 2, 1) := by decide +kernel
theorem dX4_bestDay_18 : decode cX4_bestDay 18 = .ok (.aload_n 2, 1) := by decide +kernel
theorem dX4_bestDay_19 : decode cX4_bestDay 19 = .ok (.aload_n 0, 1) := by decide +kernel
theorem dX4_bestDay_20 : decode cX4_bestDay 20 = .ok (.getfield 10, 3) := by decide +kernel
theorem dX4_bestDay_23 : decode cX4_bestDay 23 = .ok (.getfield 40, 3) := by decide +kernel
theorem dX4_bestDay_26 : decode cX4_bestDay 26 = .ok (.invokevirtual 98, 3) := by decide +kernel
theorem dX4_bestDay_29 : decode cX4_bestDay 29 = .ok (.aload_n 0, 1) := by decide +kernel
theorem dX4_bestDay_30 : decode cX4_bestDay 30 = .ok (.getfield 10, 3) := by decide +kernel
theorem dX4_bestDay_33 : decode cX4_bestDay 33 = .ok (.getfield 40, 3) := by decide +kernel
theorem dX4_bestDay_36 : decode cX4_bestDay 36 = .ok (.getfield 123, 3) := by decide +kernel
theorem dX4_bestDay_39 : decode cX4_bestDay 39 = .ok (.iload_n 1, 1) := by decide +kernel
theorem dX4_bestDay_40 : decode cX4_bestDay 40 = .ok (.iaload, 1) := by decide +kernel
theorem dX4_bestDay_41 : decode cX4_bestDay 41 = .ok (.istore_n 3, 1) := by decide +kernel
theorem dX4_bestDay_42 : decode cX4_bestDay 42 = .ok (.aload_n 0, 1) := by decide +kernel
theorem dX4_bestDay_43 : decode cX4_bestDay 43 = .ok (.getfield 10, 3) := by decide +kernel
theorem dX4_bestDay_46 : decode cX4_bestDay 46 = .ok (.getfield 40, 3) := by decide +kernel
theorem dX4_bestDay_49 : decode cX4_bestDay 49 = .ok (.getfield 127, 3) := by decide +kernel
theorem dX4_bestDay_52 : decode cX4_bestDay 52 = .ok (.iload_n 1, 1) := by decide +kernel
theorem dX4_bestDay_53 : decode cX4_bestDay 53 = .ok (.iaload, 1) := by decide +kernel
theorem dX4_bestDay_54 : decode cX4_bestDay 54 = .ok (.iload_n 3, 1) := by decide +kernel
theorem dX4_bestDay_55 : decode cX4_bestDay 55 = .ok (.isub, 1) := by decide +kernel
theorem dX4_bestDay_56 : decode cX4_bestDay 56 = .ok (.istore 4, 2) := by decide +kernel
theorem dX4_bestDay_58 : decode cX4_bestDay 58 = .ok (.bipush (-9), 2) := by decide +kernel
theorem dX4_bestDay_60 : decode cX4_bestDay 60 = .ok (.istore 5, 2) := by decide +kernel
theorem dX4_bestDay_62 : decode cX4_bestDay 62 = .ok (.iconst 0, 1) := by decide +kernel
theorem dX4_bestDay_63 : decode cX4_bestDay 63 = .ok (.istore 6, 2) := by decide +kernel
theorem dX4_bestDay_65 : decode cX4_bestDay 65 = .ok (.aload_n 2, 1) := by decide +kernel
theorem dX4_bestDay_66 : decode cX4_bestDay 66 = .ok (.getfield 48, 3) := by decide +kernel
theorem dX4_bestDay_69 : decode cX4_bestDay 69 = .ok (.istore 7, 2) := by decide +kernel
theorem dX4_bestDay_71 : decode cX4_bestDay 71 = .ok (.iload 7, 2) := by decide +kernel
theorem dX4_bestDay_73 : decode cX4_bestDay 73 = .ok (.aload_n 2, 1) := by decide +kernel
theorem dX4_bestDay_74 : decode cX4_bestDay 74 = .ok (.getfield 54, 3) := by decide +kernel
theorem dX4_bestDay_77 : decode cX4_bestDay 77 = .ok (.if_icmp .gt 117, 3) := by decide +kernel
theorem dX4_bestDay_80 : decode cX4_bestDay 80 = .ok (.iload 7, 2) := by decide +kernel
theorem dX4_bestDay_82 : decode cX4_bestDay 82 = .ok (.iload 4, 2) := by decide +kernel
theorem dX4_bestDay_84 : decode cX4_bestDay 84 = .ok (.iadd, 1) := by decide +kernel
theorem dX4_bestDay_85 : decode cX4_bestDay 85 = .ok (.sipush 999, 3) := by decide +kernel
theorem dX4_bestDay_88 : decode cX4_bestDay 88 = .ok (.if_icmp .gt 106, 3) := by decide +kernel
theorem dX4_bestDay_91 : decode cX4_bestDay 91 = .ok (.aload_n 2, 1) := by decide +kernel
theorem dX4_bestDay_92 : decode cX4_bestDay 92 = .ok (.getfield 123, 3) := by decide +kernel
theorem dX4_bestDay_95 : decode cX4_bestDay 95 = .ok (.iload_n 1, 1) := by decide +kernel
theorem dX4_bestDay_96 : decode cX4_bestDay 96 = .ok (.iload 7, 2) := by decide +kernel
theorem dX4_bestDay_98 : decode cX4_bestDay 98 = .ok (.iastore, 1) := by decide +kernel
theorem dX4_bestDay_99 : decode cX4_bestDay 99 = .ok (.aload_n 2, 1) := by decide +kernel
theorem dX4_bestDay_100 : decode cX4_bestDay 100 = .ok (.getfield 127, 3) := by decide +kernel
theorem dX4_bestDay_103 : decode cX4_bestDay 103 = .ok (.iload_n 1, 1) := by decide +kernel
theorem dX4_bestDay_104 : decode cX4_bestDay 104 = .ok (.iload 7, 2) := by decide +kernel
theorem dX4_bestDay_106 : decode cX4_bestDay 106 = .ok (.iload 4, 2) := by decide +kernel
theorem dX4_bestDay_108 : decode cX4_bestDay 108 = .ok (.iadd, 1) := by decide +kernel
theorem dX4_bestDay_109 : decode cX4_bestDay 109 = .ok (.iastore, 1) := by decide +kernel
theorem dX4_bestDay_110 : decode cX4_bestDay 110 = .ok (.aload_n 0, 1) := by decide +kernel
theorem dX4_bestDay_111 : decode cX4_bestDay 111 = .ok (.getfield 16, 3) := by decide +kernel
theorem dX4_bestDay_114 : decode cX4_bestDay 114 = .ok (.invokevirtual 33, 3) := by decide +kernel
theorem dX4_bestDay_117 : decode cX4_bestDay 117 = .ok (.aload_n 0, 1) := by decide +kernel
theorem dX4_bestDay_118 : decode cX4_bestDay 118 = .ok (.getfield 16, 3) := by decide +kernel
theorem dX4_bestDay_121 : decode cX4_bestDay 121 = .ok (.aload_n 2, 1) := by decide +kernel
theorem dX4_bestDay_122 : decode cX4_bestDay 122 = .ok (.getfield 67, 3) := by decide +kernel
theorem dX4_bestDay_125 : decode cX4_bestDay 125 = .ok (.invokevirtual 185, 3) := by decide +kernel
theorem dX4_bestDay_128 : decode cX4_bestDay 128 = .ok (.istore 8, 2) := by decide +kernel
theorem dX4_bestDay_130 : decode cX4_bestDay 130 = .ok (.iload 7, 2) := by decide +kernel
theorem dX4_bestDay_132 : decode cX4_bestDay 132 = .ok (.iload_n 3, 1) := by decide +kernel
theorem dX4_bestDay_133 : decode cX4_bestDay 133 = .ok (.isub, 1) := by decide +kernel
theorem dX4_bestDay_134 : decode cX4_bestDay 134 = .ok (.invokestatic 192, 3) := by decide +kernel
theorem dX4_bestDay_137 : decode cX4_bestDay 137 = .ok (.iload 5, 2) := by decide +kernel
theorem dX4_bestDay_139 : decode cX4_bestDay 139 = .ok (.iload_n 3, 1) := by decide +kernel
theorem dX4_bestDay_140 : decode cX4_bestDay 140 = .ok (.isub, 1) := by decide +kernel
theorem dX4_bestDay_141 : decode cX4_bestDay 141 = .ok (.invokestatic 192, 3) := by decide +kernel
theorem dX4_bestDay_144 : decode cX4_bestDay 144 = .ok (.if_icmp .ge 7, 3) := by decide +kernel
theorem dX4_bestDay_147 : decode cX4_bestDay 147 = .ok (.iconst 1, 1) := by decide +kernel
theorem dX4_bestDay_148 : decode cX4_bestDay 148 = .ok (.goto 4, 3) := by decide +kernel
theorem dX4_bestDay_151 : decode cX4_bestDay 151 = .ok (.iconst 0, 1) := by decide +kernel
theorem dX4_bestDay_152 : decode cX4_bestDay 152 = .ok (.istore 9, 2) := by decide +kernel
theorem dX4_bestDay_154 : decode cX4_bestDay 154 = .ok (.iload 5, 2) := by decide +kernel
theorem dX4_bestDay_156 : decode cX4_bestDay 156 = .ok (.bipush (-9), 2) := by decide +kernel
theorem dX4_bestDay_158 : decode cX4_bestDay 158 = .ok (.if_icmp .eq 22, 3) := by decide +kernel
theorem dX4_bestDay_161 : decode cX4_bestDay 161 = .ok (.iload 8, 2) := by decide +kernel
theorem dX4_bestDay_163 : decode cX4_bestDay 163 = .ok (.iload 6, 2) := by decide +kernel
theorem dX4_bestDay_165 : decode cX4_bestDay 165 = .ok (.if_icmp .lt 15, 3) := by decide +kernel
theorem dX4_bestDay_168 : decode cX4_bestDay 168 = .ok (.iload 8, 2) := by decide +kernel
theorem dX4_bestDay_170 : decode cX4_bestDay 170 = .ok (.iload 6, 2) := by decide +kernel
theorem dX4_bestDay_172 : decode cX4_bestDay 172 = .ok (.if_icmp .ne 16, 3) := by decide +kernel
theorem dX4_bestDay_175 : decode cX4_bestDay 175 = .ok (.iload 9, 2) := by decide +kernel
theorem dX4_bestDay_177 : decode cX4_bestDay 177 = .ok (.ifCond .eq 11, 3) := by decide +kernel
theorem dX4_bestDay_180 : decode cX4_bestDay 180 = .ok (.iload 7, 2) := by decide +kernel
theorem dX4_bestDay_182 : decode cX4_bestDay 182 = .ok (.istore 5, 2) := by decide +kernel
theorem dX4_bestDay_184 : decode cX4_bestDay 184 = .ok (.iload 8, 2) := by decide +kernel
theorem dX4_bestDay_186 : decode cX4_bestDay 186 = .ok (.istore 6, 2) := by decide +kernel
theorem dX4_bestDay_188 : decode cX4_bestDay 188 = .ok (.iinc 7 1, 3) := by decide +kernel
theorem dX4_bestDay_191 : decode cX4_bestDay 191 = .ok (.goto (-120), 3) := by decide +kernel
theorem dX4_bestDay_194 : decode cX4_bestDay 194 = .ok (.iload 5, 2) := by decide +kernel
theorem dX4_bestDay_196 : decode cX4_bestDay 196 = .ok (.ireturn, 1) := by decide +kernel
theorem dX4_told_0 : decode cX4_told 0 = .ok (.iload_n 1, 1) := by decide +kernel
theorem dX4_told_1 : decode cX4_told 1 = .ok (.tableswitch 190 0 11 #[63, 74, 85, 96, 107, 115, 126, 137, 148, 156, 174, 182], 63) := by decide +kernel
theorem dX4_told_64 : decode cX4_told 64 = .ok (.aload_n 0, 1) := by decide +kernel
theorem dX4_told_65 : decode cX4_told 65 = .ok (.getfield 10, 3) := by decide +kernel
theorem dX4_told_68 : decode cX4_told 68 = .ok (.getfield 40, 3) := by decide +kernel
theorem dX4_told_71 : decode cX4_told 71 = .ok (.getfield 48, 3) := by decide +kernel
theorem dX4_told_74 : decode cX4_told 74 = .ok (.ireturn, 1) := by decide +kernel
theorem dX4_told_75 : decode cX4_told 75 = .ok (.aload_n 0, 1) := by decide +kernel
theorem dX4_told_76 : decode cX4_told 76 = .ok (.getfield 10, 3) := by decide +kernel
theorem dX4_told_79 : decode cX4_told 79 = .ok (.getfield 40, 3) := by decide +kernel
theorem dX4_told_82 : decode cX4_told 82 = .ok (.getfield 54, 3) := by decide +kernel
theorem dX4_told_85 : decode cX4_told 85 = .ok (.ireturn, 1) := by decide +kernel
theorem dX4_told_86 : decode cX4_told 86 = .ok (.aload_n 0, 1) := by decide +kernel
theorem dX4_told_87 : decode cX4_told 87 = .ok (.getfield 10, 3) := by decide +kernel
theorem dX4_told_90 : decode cX4_told 90 = .ok (.getfield 40, 3) := by decide +kernel
theorem dX4_told_93 : decode cX4_told 93 = .ok (.getfield 64, 3) := by decide +kernel
theorem dX4_told_96 : decode cX4_told 96 = .ok (.ireturn, 1) := by decide +kernel
theorem dX4_told_97 : decode cX4_told 97 = .ok (.aload_n 0, 1) := by decide +kernel
theorem dX4_told_98 : decode cX4_told 98 = .ok (.getfield 10, 3) := by decide +kernel
theorem dX4_told_101 : decode cX4_told 101 = .ok (.getfield 40, 3) := by decide +kernel
theorem dX4_told_104 : decode cX4_told 104 = .ok (.getfield 67, 3) := by decide +kernel
theorem dX4_told_107 : decode cX4_told 107 = .ok (.ireturn, 1) := by decide +kernel
theorem dX4_told_108 : decode cX4_told 108 = .ok (.aload_n 0, 1) := by decide +kernel
theorem dX4_told_109 : decode cX4_told 109 = .ok (.getfield 10, 3) := by decide +kernel
theorem dX4_told_112 : decode cX4_told 112 = .ok (.getfield 57, 3) := by decide +kernel
theorem dX4_told_115 : decode cX4_told 115 = .ok (.ireturn, 1) := by decide +kernel
theorem dX4_told_116 : decode cX4_told 116 = .ok (.aload_n 0, 1) := by decide +kernel
theorem dX4_told_117 : decode cX4_told 117 = .ok (.getfield 10, 3) := by decide +kernel
theorem dX4_told_120 : decode cX4_told 120 = .ok (.getfield 40, 3) := by decide +kernel
theorem dX4_told_123 : decode cX4_told 123 = .ok (.getfield 105, 3) := by decide +kernel
theorem dX4_told_126 : decode cX4_told 126 = .ok (.ireturn, 1) := by decide +kernel
theorem dX4_told_127 : decode cX4_told 127 = .ok (.aload_n 0, 1) := by decide +kernel
theorem dX4_told_128 : decode cX4_told 128 = .ok (.getfield 10, 3) := by decide +kernel
theorem dX4_told_131 : decode cX4_told 131 = .ok (.getfield 40, 3) := by decide +kernel
theorem dX4_told_134 : decode cX4_told 134 = .ok (.invokevirtual 195, 3) := by decide +kernel
theorem dX4_told_137 : decode cX4_told 137 = .ok (.ireturn, 1) := by decide +kernel
theorem dX4_told_138 : decode cX4_told 138 = .ok (.aload_n 0, 1) := by decide +kernel
theorem dX4_told_139 : decode cX4_told 139 = .ok (.getfield 10, 3) := by decide +kernel
theorem dX4_told_142 : decode cX4_told 142 = .ok (.getfield 40, 3) := by decide +kernel
theorem dX4_told_145 : decode cX4_told 145 = .ok (.invokevirtual 199, 3) := by decide +kernel
theorem dX4_told_148 : decode cX4_told 148 = .ok (.ireturn, 1) := by decide +kernel
theorem dX4_told_149 : decode cX4_told 149 = .ok (.aload_n 0, 1) := by decide +kernel
theorem dX4_told_150 : decode cX4_told 150 = .ok (.getfield 10, 3) := by decide +kernel
theorem dX4_told_153 : decode cX4_told 153 = .ok (.invokevirtual 202, 3) := by decide +kernel
theorem dX4_told_156 : decode cX4_told 156 = .ok (.ireturn, 1) := by decide +kernel
theorem dX4_told_157 : decode cX4_told 157 = .ok (.aload_n 0, 1) := by decide +kernel
theorem dX4_told_158 : decode cX4_told 158 = .ok (.getfield 10, 3) := by decide +kernel
theorem dX4_told_161 : decode cX4_told 161 = .ok (.aload_n 0, 1) := by decide +kernel
theorem dX4_told_162 : decode cX4_told 162 = .ok (.getfield 10, 3) := by decide +kernel
theorem dX4_told_165 : decode cX4_told 165 = .ok (.getfield 40, 3) := by decide +kernel
theorem dX4_told_168 : decode cX4_told 168 = .ok (.getfield 67, 3) := by decide +kernel
theorem dX4_told_171 : decode cX4_told 171 = .ok (.invokevirtual 185, 3) := by decide +kernel
theorem dX4_told_174 : decode cX4_told 174 = .ok (.ireturn, 1) := by decide +kernel
theorem dX4_told_175 : decode cX4_told 175 = .ok (.aload_n 0, 1) := by decide +kernel
theorem dX4_told_176 : decode cX4_told 176 = .ok (.getfield 29, 3) := by decide +kernel
theorem dX4_told_179 : decode cX4_told 179 = .ok (.getfield 91, 3) := by decide +kernel
theorem dX4_told_182 : decode cX4_told 182 = .ok (.ireturn, 1) := by decide +kernel
theorem dX4_told_183 : decode cX4_told 183 = .ok (.aload_n 0, 1) := by decide +kernel
theorem dX4_told_184 : decode cX4_told 184 = .ok (.getfield 22, 3) := by decide +kernel
theorem dX4_told_187 : decode cX4_told 187 = .ok (.getfield 205, 3) := by decide +kernel
theorem dX4_told_190 : decode cX4_told 190 = .ok (.ireturn, 1) := by decide +kernel
theorem dX4_told_191 : decode cX4_told 191 = .ok (.iconst (-1), 1) := by decide +kernel
theorem dX4_told_192 : decode cX4_told 192 = .ok (.ireturn, 1) := by decide +kernel
theorem dX4_undo_0 : decode cX4_undo 0 = .ok (.aload_n 0, 1) := by decide +kernel
theorem dX4_undo_1 : decode cX4_undo 1 = .ok (.getfield 22, 3) := by decide +kernel
theorem dX4_undo_4 : decode cX4_undo 4 = .ok (.getfield 205, 3) := by decide +kernel
theorem dX4_undo_7 : decode cX4_undo 7 = .ok (.ifCond .gt 6, 3) := by decide +kernel
theorem dX4_undo_10 : decode cX4_undo 10 = .ok (.bipush (-2), 2) := by decide +kernel
theorem dX4_undo_12 : decode cX4_undo 12 = .ok (.ireturn, 1) := by decide +kernel
theorem dX4_undo_13 : decode cX4_undo 13 = .ok (.aload_n 0, 1) := by decide +kernel
theorem dX4_undo_14 : decode cX4_undo 14 = .ok (.getfield 22, 3) := by decide +kernel
theorem dX4_undo_17 : decode cX4_undo 17 = .ok (.aload_n 0, 1) := by decide +kernel
theorem dX4_undo_18 : decode cX4_undo 18 = .ok (.getfield 10, 3) := by decide +kernel
theorem dX4_undo_21 : decode cX4_undo 21 = .ok (.getfield 40, 3) := by decide +kernel
theorem dX4_undo_24 : decode cX4_undo 24 = .ok (.invokevirtual 206, 3) := by decide +kernel
theorem dX4_undo_27 : decode cX4_undo 27 = .ok (.aload_n 0, 1) := by decide +kernel
theorem dX4_undo_28 : decode cX4_undo 28 = .ok (.getfield 10, 3) := by decide +kernel
theorem dX4_undo_31 : decode cX4_undo 31 = .ok (.invokevirtual 33, 3) := by decide +kernel
theorem dX4_undo_34 : decode cX4_undo 34 = .ok (.aload_n 0, 1) := by decide +kernel
theorem dX4_undo_35 : decode cX4_undo 35 = .ok (.getfield 22, 3) := by decide +kernel
theorem dX4_undo_38 : decode cX4_undo 38 = .ok (.getfield 205, 3) := by decide +kernel
theorem dX4_undo_41 : decode cX4_undo 41 = .ok (.ireturn, 1) := by decide +kernel
theorem dX4_digest_0 : decode cX4_digest 0 = .ok (.ldc2_w 209, 3) := by decide +kernel
theorem dX4_digest_3 : decode cX4_digest 3 = .ok (.lstore_n 1, 1) := by decide +kernel
theorem dX4_digest_4 : decode cX4_digest 4 = .ok (.iconst 0, 1) := by decide +kernel
theorem dX4_digest_5 : decode cX4_digest 5 = .ok (.istore_n 3, 1) := by decide +kernel
theorem dX4_digest_6 : decode cX4_digest 6 = .ok (.iload_n 3, 1) := by decide +kernel
theorem dX4_digest_7 : decode cX4_digest 7 = .ok (.bipush 11, 2) := by decide +kernel
theorem dX4_digest_9 : decode cX4_digest 9 = .ok (.if_icmp .gt 22, 3) := by decide +kernel
theorem dX4_digest_12 : decode cX4_digest 12 = .ok (.ldc2_w 211, 3) := by decide +kernel
theorem dX4_digest_15 : decode cX4_digest 15 = .ok (.lload_n 1, 1) := by decide +kernel
theorem dX4_digest_16 : decode cX4_digest 16 = .ok (.lmul, 1) := by decide +kernel
theorem dX4_digest_17 : decode cX4_digest 17 = .ok (.aload_n 0, 1) := by decide +kernel
theorem dX4_digest_18 : decode cX4_digest 18 = .ok (.iload_n 3, 1) := by decide +kernel
theorem dX4_digest_19 : decode cX4_digest 19 = .ok (.invokevirtual 213, 3) := by decide +kernel
theorem dX4_digest_22 : decode cX4_digest 22 = .ok (.i2l, 1) := by decide +kernel
theorem dX4_digest_23 : decode cX4_digest 23 = .ok (.ladd, 1) := by decide +kernel
theorem dX4_digest_24 : decode cX4_digest 24 = .ok (.lstore_n 1, 1) := by decide +kernel
theorem dX4_digest_25 : decode cX4_digest 25 = .ok (.iinc 3 1, 3) := by decide +kernel
theorem dX4_digest_28 : decode cX4_digest 28 = .ok (.goto (-22), 3) := by decide +kernel
theorem dX4_digest_31 : decode cX4_digest 31 = .ok (.aload_n 0, 1) := by decide +kernel
theorem dX4_digest_32 : decode cX4_digest 32 = .ok (.lload_n 1, 1) := by decide +kernel
theorem dX4_digest_33 : decode cX4_digest 33 = .ok (.invokevirtual 216, 3) := by decide +kernel
theorem dX4_digest_36 : decode cX4_digest 36 = .ok (.lstore_n 1, 1) := by decide +kernel
theorem dX4_digest_37 : decode cX4_digest 37 = .ok (.aload_n 0, 1) := by decide +kernel
theorem dX4_digest_38 : decode cX4_digest 38 = .ok (.lload_n 1, 1) := by decide +kernel
theorem dX4_digest_39 : decode cX4_digest 39 = .ok (.invokevirtual 220, 3) := by decide +kernel
theorem dX4_digest_42 : decode cX4_digest 42 = .ok (.lstore_n 1, 1) := by decide +kernel
theorem dX4_digest_43 : decode cX4_digest 43 = .ok (.aload_n 0, 1) := by decide +kernel
theorem dX4_digest_44 : decode cX4_digest 44 = .ok (.lload_n 1, 1) := by decide +kernel
theorem dX4_digest_45 : decode cX4_digest 45 = .ok (.invokevirtual 223, 3) := by decide +kernel
theorem dX4_digest_48 : decode cX4_digest 48 = .ok (.lstore_n 1, 1) := by decide +kernel
theorem dX4_digest_49 : decode cX4_digest 49 = .ok (.ldc2_w 211, 3) := by decide +kernel
theorem dX4_digest_52 : decode cX4_digest 52 = .ok (.lload_n 1, 1) := by decide +kernel
theorem dX4_digest_53 : decode cX4_digest 53 = .ok (.lmul, 1) := by decide +kernel
theorem dX4_digest_54 : decode cX4_digest 54 = .ok (.aload_n 0, 1) := by decide +kernel
theorem dX4_digest_55 : decode cX4_digest 55 = .ok (.invokevirtual 226, 3) := by decide +kernel
theorem dX4_digest_58 : decode cX4_digest 58 = .ok (.i2l, 1) := by decide +kernel
theorem dX4_digest_59 : decode cX4_digest 59 = .ok (.ladd, 1) := by decide +kernel
theorem dX4_digest_60 : decode cX4_digest 60 = .ok (.lstore_n 1, 1) := by decide +kernel
theorem dX4_digest_61 : decode cX4_digest 61 = .ok (.ldc2_w 211, 3) := by decide +kernel
theorem dX4_digest_64 : decode cX4_digest 64 = .ok (.lload_n 1, 1) := by decide +kernel
theorem dX4_digest_65 : decode cX4_digest 65 = .ok (.lmul, 1) := by decide +kernel
theorem dX4_digest_66 : decode cX4_digest 66 = .ok (.aload_n 0, 1) := by decide +kernel
theorem dX4_digest_67 : decode cX4_digest 67 = .ok (.iconst 1, 1) := by decide +kernel
theorem dX4_digest_68 : decode cX4_digest 68 = .ok (.iconst 0, 1) := by decide +kernel
theorem dX4_digest_69 : decode cX4_digest 69 = .ok (.invokevirtual 229, 3) := by decide +kernel
theorem dX4_digest_72 : decode cX4_digest 72 = .ok (.i2l, 1) := by decide +kernel
theorem dX4_digest_73 : decode cX4_digest 73 = .ok (.ladd, 1) := by decide +kernel
theorem dX4_digest_74 : decode cX4_digest 74 = .ok (.lreturn, 1) := by decide +kernel
theorem dX4_digestEntries_0 : decode cX4_digestEntries 0 = .ok (.lload_n 1, 1) := by decide +kernel
theorem dX4_digestEntries_1 : decode cX4_digestEntries 1 = .ok (.lstore_n 3, 1) := by decide +kernel
theorem dX4_digestEntries_2 : decode cX4_digestEntries 2 = .ok (.iconst 0, 1) := by decide +kernel
theorem dX4_digestEntries_3 : decode cX4_digestEntries 3 = .ok (.istore 5, 2) := by decide +kernel
theorem dX4_digestEntries_5 : decode cX4_digestEntries 5 = .ok (.iload 5, 2) := by decide +kernel
theorem dX4_digestEntries_7 : decode cX4_digestEntries 7 = .ok (.aload_n 0, 1) := by decide +kernel
theorem dX4_digestEntries_8 : decode cX4_digestEntries 8 = .ok (.getfield 10, 3) := by decide +kernel
theorem dX4_digestEntries_11 : decode cX4_digestEntries 11 = .ok (.getfield 40, 3) := by decide +kernel
theorem dX4_digestEntries_14 : decode cX4_digestEntries 14 = .ok (.getfield 105, 3) := by decide +kernel
theorem dX4_digestEntries_17 : decode cX4_digestEntries 17 = .ok (.if_icmp .ge 95, 3) := by decide +kernel
theorem dX4_digestEntries_20 : decode cX4_digestEntries 20 = .ok (.iconst 0, 1) := by decide +kernel
theorem dX4_digestEntries_21 : decode cX4_digestEntries 21 = .ok (.istore 6, 2) := by decide +kernel
theorem dX4_digestEntries_23 : decode cX4_digestEntries 23 = .ok (.iload 6, 2) := by decide +kernel
theorem dX4_digestEntries_25 : decode cX4_digestEntries 25 = .ok (.bipush 7, 2) := by decide +kernel
theorem dX4_digestEntries_27 : decode cX4_digestEntries 27 = .ok (.if_icmp .gt 25, 3) := by decide +kernel
theorem dX4_digestEntries_30 : decode cX4_digestEntries 30 = .ok (.ldc2_w 211, 3) := by decide +kernel
theorem dX4_digestEntries_33 : decode cX4_digestEntries 33 = .ok (.lload_n 3, 1) := by decide +kernel
theorem dX4_digestEntries_34 : decode cX4_digestEntries 34 = .ok (.lmul, 1) := by decide +kernel
theorem dX4_digestEntries_35 : decode cX4_digestEntries 35 = .ok (.aload_n 0, 1) := by decide +kernel
theorem dX4_digestEntries_36 : decode cX4_digestEntries 36 = .ok (.iload 5, 2) := by decide +kernel
theorem dX4_digestEntries_38 : decode cX4_digestEntries 38 = .ok (.iload 6, 2) := by decide +kernel
theorem dX4_digestEntries_40 : decode cX4_digestEntries 40 = .ok (.invokevirtual 233, 3) := by decide +kernel
theorem dX4_digestEntries_43 : decode cX4_digestEntries 43 = .ok (.i2l, 1) := by decide +kernel
theorem dX4_digestEntries_44 : decode cX4_digestEntries 44 = .ok (.ladd, 1) := by decide +kernel
theorem dX4_digestEntries_45 : decode cX4_digestEntries 45 = .ok (.lstore_n 3, 1) := by decide +kernel
theorem dX4_digestEntries_46 : decode cX4_digestEntries 46 = .ok (.iinc 6 1, 3) := by decide +kernel
theorem dX4_digestEntries_49 : decode cX4_digestEntries 49 = .ok (.goto (-26), 3) := by decide +kernel
theorem dX4_digestEntries_52 : decode cX4_digestEntries 52 = .ok (.iconst 0, 1) := by decide +kernel
theorem dX4_digestEntries_53 : decode cX4_digestEntries 53 = .ok (.istore 6, 2) := by decide +kernel
theorem dX4_digestEntries_55 : decode cX4_digestEntries 55 = .ok (.iload 6, 2) := by decide +kernel
theorem dX4_digestEntries_57 : decode cX4_digestEntries 57 = .ok (.aload_n 0, 1) := by decide +kernel
theorem dX4_digestEntries_58 : decode cX4_digestEntries 58 = .ok (.getfield 10, 3) := by decide +kernel
theorem dX4_digestEntries_61 : decode cX4_digestEntries 61 = .ok (.getfield 57, 3) := by decide +kernel
theorem dX4_digestEntries_64 : decode cX4_digestEntries 64 = .ok (.if_icmp .ge 42, 3) := by decide +kernel
theorem dX4_digestEntries_67 : decode cX4_digestEntries 67 = .ok (.iconst 0, 1) := by decide +kernel
theorem dX4_digestEntries_68 : decode cX4_digestEntries 68 = .ok (.istore 7, 2) := by decide +kernel
theorem dX4_digestEntries_70 : decode cX4_digestEntries 70 = .ok (.iload 7, 2) := by decide +kernel
theorem dX4_digestEntries_72 : decode cX4_digestEntries 72 = .ok (.iconst 4, 1) := by decide +kernel
theorem dX4_digestEntries_73 : decode cX4_digestEntries 73 = .ok (.if_icmp .gt 27, 3) := by decide +kernel
theorem dX4_digestEntries_76 : decode cX4_digestEntries 76 = .ok (.ldc2_w 211, 3) := by decide +kernel
theorem dX4_digestEntries_79 : decode cX4_digestEntries 79 = .ok (.lload_n 3, 1) := by decide +kernel
theorem dX4_digestEntries_80 : decode cX4_digestEntries 80 = .ok (.lmul, 1) := by decide +kernel
theorem dX4_digestEntries_81 : decode cX4_digestEntries 81 = .ok (.aload_n 0, 1) := by decide +kernel
theorem dX4_digestEntries_82 : decode cX4_digestEntries 82 = .ok (.iload 5, 2) := by decide +kernel
theorem dX4_digestEntries_84 : decode cX4_digestEntries 84 = .ok (.iload 6, 2) := by decide +kernel
theorem dX4_digestEntries_86 : decode cX4_digestEntries 86 = .ok (.iload 7, 2) := by decide +kernel
theorem dX4_digestEntries_88 : decode cX4_digestEntries 88 = .ok (.invokevirtual 236, 3) := by decide +kernel
theorem dX4_digestEntries_91 : decode cX4_digestEntries 91 = .ok (.i2l, 1) := by decide +kernel
theorem dX4_digestEntries_92 : decode cX4_digestEntries 92 = .ok (.ladd, 1) := by decide +kernel
theorem dX4_digestEntries_93 : decode cX4_digestEntries 93 = .ok (.lstore_n 3, 1) := by decide +kernel
theorem dX4_digestEntries_94 : decode cX4_digestEntries 94 = .ok (.iinc 7 1, 3) := by decide +kernel
theorem dX4_digestEntries_97 : decode cX4_digestEntries 97 = .ok (.goto (-27), 3) := by decide +kernel
theorem dX4_digestEntries_100 : decode cX4_digestEntries 100 = .ok (.iinc 6 1, 3) := by decide +kernel
theorem dX4_digestEntries_103 : decode cX4_digestEntries 103 = .ok (.goto (-48), 3) := by decide +kernel
theorem dX4_digestEntries_106 : decode cX4_digestEntries 106 = .ok (.iinc 5 1, 3) := by decide +kernel
theorem dX4_digestEntries_109 : decode cX4_digestEntries 109 = .ok (.goto (-104), 3) := by decide +kernel
theorem dX4_digestEntries_112 : decode cX4_digestEntries 112 = .ok (.lload_n 3, 1) := by decide +kernel
theorem dX4_digestEntries_113 : decode cX4_digestEntries 113 = .ok (.lreturn, 1) := by decide +kernel
theorem dX4_digestWeeks_0 : decode cX4_digestWeeks 0 = .ok (.lload_n 1, 1) := by decide +kernel
theorem dX4_digestWeeks_1 : decode cX4_digestWeeks 1 = .ok (.lstore_n 3, 1) := by decide +kernel
theorem dX4_digestWeeks_2 : decode cX4_digestWeeks 2 = .ok (.iconst 0, 1) := by decide +kernel
theorem dX4_digestWeeks_3 : decode cX4_digestWeeks 3 = .ok (.istore 5, 2) := by decide +kernel
theorem dX4_digestWeeks_5 : decode cX4_digestWeeks 5 = .ok (.iload 5, 2) := by decide +kernel
theorem dX4_digestWeeks_7 : decode cX4_digestWeeks 7 = .ok (.aload_n 0, 1) := by decide +kernel
theorem dX4_digestWeeks_8 : decode cX4_digestWeeks 8 = .ok (.getfield 10, 3) := by decide +kernel
theorem dX4_digestWeeks_11 : decode cX4_digestWeeks 11 = .ok (.getfield 57, 3) := by decide +kernel
theorem dX4_digestWeeks_14 : decode cX4_digestWeeks 14 = .ok (.if_icmp .ge 40, 3) := by decide +kernel
theorem dX4_digestWeeks_17 : decode cX4_digestWeeks 17 = .ok (.iconst 0, 1) := by decide +kernel
theorem dX4_digestWeeks_18 : decode cX4_digestWeeks 18 = .ok (.istore 6, 2) := by decide +kernel
theorem dX4_digestWeeks_20 : decode cX4_digestWeeks 20 = .ok (.iload 6, 2) := by decide +kernel
theorem dX4_digestWeeks_22 : decode cX4_digestWeeks 22 = .ok (.iconst 5, 1) := by decide +kernel
theorem dX4_digestWeeks_23 : decode cX4_digestWeeks 23 = .ok (.if_icmp .gt 25, 3) := by decide +kernel
theorem dX4_digestWeeks_26 : decode cX4_digestWeeks 26 = .ok (.ldc2_w 211, 3) := by decide +kernel
theorem dX4_digestWeeks_29 : decode cX4_digestWeeks 29 = .ok (.lload_n 3, 1) := by decide +kernel
theorem dX4_digestWeeks_30 : decode cX4_digestWeeks 30 = .ok (.lmul, 1) := by decide +kernel
theorem dX4_digestWeeks_31 : decode cX4_digestWeeks 31 = .ok (.aload_n 0, 1) := by decide +kernel
theorem dX4_digestWeeks_32 : decode cX4_digestWeeks 32 = .ok (.iload 5, 2) := by decide +kernel
theorem dX4_digestWeeks_34 : decode cX4_digestWeeks 34 = .ok (.iload 6, 2) := by decide +kernel
theorem dX4_digestWeeks_36 : decode cX4_digestWeeks 36 = .ok (.invokevirtual 239, 3) := by decide +kernel
theorem dX4_digestWeeks_39 : decode cX4_digestWeeks 39 = .ok (.i2l, 1) := by decide +kernel
theorem dX4_digestWeeks_40 : decode cX4_digestWeeks 40 = .ok (.ladd, 1) := by decide +kernel
theorem dX4_digestWeeks_41 : decode cX4_digestWeeks 41 = .ok (.lstore_n 3, 1) := by decide +kernel
theorem dX4_digestWeeks_42 : decode cX4_digestWeeks 42 = .ok (.iinc 6 1, 3) := by decide +kernel
theorem dX4_digestWeeks_45 : decode cX4_digestWeeks 45 = .ok (.goto (-25), 3) := by decide +kernel
theorem dX4_digestWeeks_48 : decode cX4_digestWeeks 48 = .ok (.iinc 5 1, 3) := by decide +kernel
theorem dX4_digestWeeks_51 : decode cX4_digestWeeks 51 = .ok (.goto (-46), 3) := by decide +kernel
theorem dX4_digestWeeks_54 : decode cX4_digestWeeks 54 = .ok (.lload_n 3, 1) := by decide +kernel
theorem dX4_digestWeeks_55 : decode cX4_digestWeeks 55 = .ok (.lreturn, 1) := by decide +kernel
theorem dX4_digestDays_0 : decode cX4_digestDays 0 = .ok (.lload_n 1, 1) := by decide +kernel
theorem dX4_digestDays_1 : decode cX4_digestDays 1 = .ok (.lstore_n 3, 1) := by decide +kernel
theorem dX4_digestDays_2 : decode cX4_digestDays 2 = .ok (.aload_n 0, 1) := by decide +kernel
theorem dX4_digestDays_3 : decode cX4_digestDays 3 = .ok (.getfield 10, 3) := by decide +kernel
theorem dX4_digestDays_6 : decode cX4_digestDays 6 = .ok (.getfield 40, 3) := by decide +kernel
theorem dX4_digestDays_9 : decode cX4_digestDays 9 = .ok (.getfield 48, 3) := by decide +kernel
theorem dX4_digestDays_12 : decode cX4_digestDays 12 = .ok (.istore 5, 2) := by decide +kernel
theorem dX4_digestDays_14 : decode cX4_digestDays 14 = .ok (.iload 5, 2) := by decide +kernel
theorem dX4_digestDays_16 : decode cX4_digestDays 16 = .ok (.aload_n 0, 1) := by decide +kernel
theorem dX4_digestDays_17 : decode cX4_digestDays 17 = .ok (.getfield 10, 3) := by decide +kernel
theorem dX4_digestDays_20 : decode cX4_digestDays 20 = .ok (.getfield 40, 3) := by decide +kernel
theorem dX4_digestDays_23 : decode cX4_digestDays 23 = .ok (.getfield 54, 3) := by decide +kernel
theorem dX4_digestDays_26 : decode cX4_digestDays 26 = .ok (.if_icmp .gt 72, 3) := by decide +kernel
theorem dX4_digestDays_29 : decode cX4_digestDays 29 = .ok (.iconst 0, 1) := by decide +kernel
theorem dX4_digestDays_30 : decode cX4_digestDays 30 = .ok (.istore 6, 2) := by decide +kernel
theorem dX4_digestDays_32 : decode cX4_digestDays 32 = .ok (.iload 6, 2) := by decide +kernel
theorem dX4_digestDays_34 : decode cX4_digestDays 34 = .ok (.iconst 5, 1) := by decide +kernel
theorem dX4_digestDays_35 : decode cX4_digestDays 35 = .ok (.if_icmp .gt 25, 3) := by decide +kernel
theorem dX4_digestDays_38 : decode cX4_digestDays 38 = .ok (.ldc2_w 211, 3) := by decide +kernel
theorem dX4_digestDays_41 : decode cX4_digestDays 41 = .ok (.lload_n 3, 1) := by decide +kernel
theorem dX4_digestDays_42 : decode cX4_digestDays 42 = .ok (.lmul, 1) := by decide +kernel
theorem dX4_digestDays_43 : decode cX4_digestDays 43 = .ok (.aload_n 0, 1) := by decide +kernel
theorem dX4_digestDays_44 : decode cX4_digestDays 44 = .ok (.iload 5, 2) := by decide +kernel
theorem dX4_digestDays_46 : decode cX4_digestDays 46 = .ok (.iload 6, 2) := by decide +kernel
theorem dX4_digestDays_48 : decode cX4_digestDays 48 = .ok (.invokevirtual 242, 3) := by decide +kernel
theorem dX4_digestDays_51 : decode cX4_digestDays 51 = .ok (.i2l, 1) := by decide +kernel
theorem dX4_digestDays_52 : decode cX4_digestDays 52 = .ok (.ladd, 1) := by decide +kernel
theorem dX4_digestDays_53 : decode cX4_digestDays 53 = .ok (.lstore_n 3, 1) := by decide +kernel
theorem dX4_digestDays_54 : decode cX4_digestDays 54 = .ok (.iinc 6 1, 3) := by decide +kernel
theorem dX4_digestDays_57 : decode cX4_digestDays 57 = .ok (.goto (-25), 3) := by decide +kernel
theorem dX4_digestDays_60 : decode cX4_digestDays 60 = .ok (.iconst 0, 1) := by decide +kernel
theorem dX4_digestDays_61 : decode cX4_digestDays 61 = .ok (.istore 6, 2) := by decide +kernel
theorem dX4_digestDays_63 : decode cX4_digestDays 63 = .ok (.iload 6, 2) := by decide +kernel
theorem dX4_digestDays_65 : decode cX4_digestDays 65 = .ok (.bipush 12, 2) := by decide +kernel
theorem dX4_digestDays_67 : decode cX4_digestDays 67 = .ok (.if_icmp .ge 25, 3) := by decide +kernel
theorem dX4_digestDays_70 : decode cX4_digestDays 70 = .ok (.ldc2_w 211, 3) := by decide +kernel
theorem dX4_digestDays_73 : decode cX4_digestDays 73 = .ok (.lload_n 3, 1) := by decide +kernel
theorem dX4_digestDays_74 : decode cX4_digestDays 74 = .ok (.lmul, 1) := by decide +kernel
theorem dX4_digestDays_75 : decode cX4_digestDays 75 = .ok (.aload_n 0, 1) := by decide +kernel
theorem dX4_digestDays_76 : decode cX4_digestDays 76 = .ok (.iload 5, 2) := by decide +kernel
theorem dX4_digestDays_78 : decode cX4_digestDays 78 = .ok (.iload 6, 2) := by decide +kernel
theorem dX4_digestDays_80 : decode cX4_digestDays 80 = .ok (.invokevirtual 245, 3) := by decide +kernel
theorem dX4_digestDays_83 : decode cX4_digestDays 83 = .ok (.i2l, 1) := by decide +kernel
theorem dX4_digestDays_84 : decode cX4_digestDays 84 = .ok (.ladd, 1) := by decide +kernel
theorem dX4_digestDays_85 : decode cX4_digestDays 85 = .ok (.lstore_n 3, 1) := by decide +kernel
theorem dX4_digestDays_86 : decode cX4_digestDays 86 = .ok (.iinc 6 1, 3) := by decide +kernel
theorem dX4_digestDays_89 : decode cX4_digestDays 89 = .ok (.goto (-26), 3) := by decide +kernel
theorem dX4_digestDays_92 : decode cX4_digestDays 92 = .ok (.iinc 5 1, 3) := by decide +kernel
theorem dX4_digestDays_95 : decode cX4_digestDays 95 = .ok (.goto (-81), 3) := by decide +kernel
theorem dX4_digestDays_98 : decode cX4_digestDays 98 = .ok (.lload_n 3, 1) := by decide +kernel
theorem dX4_digestDays_99 : decode cX4_digestDays 99 = .ok (.lreturn, 1) := by decide +kernel
theorem dX4_isEntry_0 : decode cX4_isEntry 0 = .ok (.iload_n 1, 1) := by decide +kernel
theorem dX4_isEntry_1 : decode cX4_isEntry 1 = .ok (.iconst 0, 1) := by decide +kernel
theorem dX4_isEntry_2 : decode cX4_isEntry 2 = .ok (.aload_n 0, 1) := by decide +kernel
theorem dX4_isEntry_3 : decode cX4_isEntry 3 = .ok (.getfield 10, 3) := by decide +kernel
theorem dX4_isEntry_6 : decode cX4_isEntry 6 = .ok (.getfield 40, 3) := by decide +kernel
theorem dX4_isEntry_9 : decode cX4_isEntry 9 = .ok (.getfield 105, 3) := by decide +kernel
theorem dX4_isEntry_12 : decode cX4_isEntry 12 = .ok (.iconst 1, 1) := by decide +kernel
theorem dX4_isEntry_13 : decode cX4_isEntry 13 = .ok (.isub, 1) := by decide +kernel
theorem dX4_isEntry_14 : decode cX4_isEntry 14 = .ok (.invokestatic 60, 3) := by decide +kernel
theorem dX4_isEntry_17 : decode cX4_isEntry 17 = .ok (.ireturn, 1) := by decide +kernel
theorem dX4_isOnPage_0 : decode cX4_isOnPage 0 = .ok (.iload_n 1, 1) := by decide +kernel
theorem dX4_isOnPage_1 : decode cX4_isOnPage 1 = .ok (.aload_n 0, 1) := by decide +kernel
theorem dX4_isOnPage_2 : decode cX4_isOnPage 2 = .ok (.getfield 10, 3) := by decide +kernel
theorem dX4_isOnPage_5 : decode cX4_isOnPage 5 = .ok (.getfield 40, 3) := by decide +kernel
theorem dX4_isOnPage_8 : decode cX4_isOnPage 8 = .ok (.getfield 48, 3) := by decide +kernel
theorem dX4_isOnPage_11 : decode cX4_isOnPage 11 = .ok (.aload_n 0, 1) := by decide +kernel
theorem dX4_isOnPage_12 : decode cX4_isOnPage 12 = .ok (.getfield 10, 3) := by decide +kernel
theorem dX4_isOnPage_15 : decode cX4_isOnPage 15 = .ok (.getfield 40, 3) := by decide +kernel
theorem dX4_isOnPage_18 : decode cX4_isOnPage 18 = .ok (.getfield 54, 3) := by decide +kernel
theorem dX4_isOnPage_21 : decode cX4_isOnPage 21 = .ok (.invokestatic 60, 3) := by decide +kernel
theorem dX4_isOnPage_24 : decode cX4_isOnPage 24 = .ok (.ireturn, 1) := by decide +kernel
theorem dX4_isDay_0 : decode cX4_isDay 0 = .ok (.iload_n 0, 1) := by decide +kernel
theorem dX4_isDay_1 : decode cX4_isDay 1 = .ok (.iconst 0, 1) := by decide +kernel
theorem dX4_isDay_2 : decode cX4_isDay 2 = .ok (.sipush 999, 3) := by decide +kernel
theorem dX4_isDay_5 : decode cX4_isDay 5 = .ok (.invokestatic 60, 3) := by decide +kernel
theorem dX4_isDay_8 : decode cX4_isDay 8 = .ok (.ireturn, 1) := by decide +kernel
theorem dX4_isTime_0 : decode cX4_isTime 0 = .ok (.iload_n 0, 1) := by decide +kernel
theorem dX4_isTime_1 : decode cX4_isTime 1 = .ok (.bipush (-9), 2) := by decide +kernel
theorem dX4_isTime_3 : decode cX4_isTime 3 = .ok (.if_icmp .eq 14, 3) := by decide +kernel
theorem dX4_isTime_6 : decode cX4_isTime 6 = .ok (.iload_n 0, 1) := by decide +kernel
theorem dX4_isTime_7 : decode cX4_isTime 7 = .ok (.iconst 0, 1) := by decide +kernel
theorem dX4_isTime_8 : decode cX4_isTime 8 = .ok (.sipush 1439, 3) := by decide +kernel
theorem dX4_isTime_11 : decode cX4_isTime 11 = .ok (.invokestatic 60, 3) := by decide +kernel
theorem dX4_isTime_14 : decode cX4_isTime 14 = .ok (.ifCond .eq 7, 3) := by decide +kernel
theorem dX4_isTime_17 : decode cX4_isTime 17 = .ok (.iconst 1, 1) := by decide +kernel
theorem dX4_isTime_18 : decode cX4_isTime 18 = .ok (.goto 4, 3) := by decide +kernel
theorem dX4_isTime_21 : decode cX4_isTime 21 = .ok (.iconst 0, 1) := by decide +kernel
theorem dX4_isTime_22 : decode cX4_isTime 22 = .ok (.ireturn, 1) := by decide +kernel
theorem dX4_isRank_0 : decode cX4_isRank 0 = .ok (.iload_n 0, 1) := by decide +kernel
theorem dX4_isRank_1 : decode cX4_isRank 1 = .ok (.iconst 0, 1) := by decide +kernel
theorem dX4_isRank_2 : decode cX4_isRank 2 = .ok (.bipush 9, 2) := by decide +kernel
theorem dX4_isRank_4 : decode cX4_isRank 4 = .ok (.invokestatic 60, 3) := by decide +kernel
theorem dX4_isRank_7 : decode cX4_isRank 7 = .ok (.ireturn, 1) := by decide +kernel
theorem dX4_isWithin_0 : decode cX4_isWithin 0 = .ok (.iload_n 0, 1) := by decide +kernel
theorem dX4_isWithin_1 : decode cX4_isWithin 1 = .ok (.iload_n 1, 1) := by decide +kernel
theorem dX4_isWithin_2 : decode cX4_isWithin 2 = .ok (.if_icmp .lt 12, 3) := by decide +kernel
theorem dX4_isWithin_5 : decode cX4_isWithin 5 = .ok (.iload_n 0, 1) := by decide +kernel
theorem dX4_isWithin_6 : decode cX4_isWithin 6 = .ok (.iload_n 2, 1) := by decide +kernel
theorem dX4_isWithin_7 : decode cX4_isWithin 7 = .ok (.if_icmp .gt 7, 3) := by decide +kernel
theorem dX4_isWithin_10 : decode cX4_isWithin 10 = .ok (.iconst 1, 1) := by decide +kernel
theorem dX4_isWithin_11 : decode cX4_isWithin 11 = .ok (.goto 4, 3) := by decide +kernel
theorem dX4_isWithin_14 : decode cX4_isWithin 14 = .ok (.iconst 0, 1) := by decide +kernel
theorem dX4_isWithin_15 : decode cX4_isWithin 15 = .ok (.ireturn, 1) := by decide +kernel
theorem dX4_asNumber_0 : decode cX4_asNumber 0 = .ok (.iload_n 0, 1) := by decide +kernel
theorem dX4_asNumber_1 : decode cX4_asNumber 1 = .ok (.ifCond .eq 7, 3) := by decide +kernel
theorem dX4_asNumber_4 : decode cX4_asNumber 4 = .ok (.iconst 1, 1) := by decide +kernel
theorem dX4_asNumber_5 : decode cX4_asNumber 5 = .ok (.goto 4, 3) := by decide +kernel
theorem dX4_asNumber_8 : decode cX4_asNumber 8 = .ok (.iconst 0, 1) := by decide +kernel
theorem dX4_asNumber_9 : decode cX4_asNumber 9 = .ok (.ireturn, 1) := by decide +kernel
theorem dX5_init_0 : decode cX5_init 0 = .ok (.aload_n 0, 1) := by decide +kernel
theorem dX5_init_1 : decode cX5_init 1 = .ok (.invokespecial 1, 3) := by decide +kernel
theorem dX5_init_4 : decode cX5_init 4 = .ok (.aload_n 0, 1) := by decide +kernel
theorem dX5_init_5 : decode cX5_init 5 = .ok (.sipush 909, 3) := by decide +kernel
theorem dX5_init_8 : decode cX5_init 8 = .ok (.newarray .int, 2) := by decide +kernel
theorem dX5_init_10 : decode cX5_init 10 = .ok (.putfield 7, 3) := by decide +kernel
theorem dX5_init_13 : decode cX5_init 13 = .ok (.aload_n 0, 1) := by decide +kernel
theorem dX5_init_14 : decode cX5_init 14 = .ok (.bipush 100, 2) := by decide +kernel
theorem dX5_init_16 : decode cX5_init 16 = .ok (.newarray .int, 2) := by decide +kernel
theorem dX5_init_18 : decode cX5_init 18 = .ok (.putfield 13, 3) := by decide +kernel
theorem dX5_init_21 : decode cX5_init 21 = .ok (.aload_n 0, 1) := by decide +kernel
theorem dX5_init_22 : decode cX5_init 22 = .ok (.sipush 168, 3) := by decide +kernel
theorem dX5_init_25 : decode cX5_init 25 = .ok (.newarray .int, 2) := by decide +kernel
theorem dX5_init_27 : decode cX5_init 27 = .ok (.putfield 16, 3) := by decide +kernel
theorem dX5_init_30 : decode cX5_init 30 = .ok (.aload_n 0, 1) := by decide +kernel
theorem dX5_init_31 : decode cX5_init 31 = .ok (.bipush 24, 2) := by decide +kernel
theorem dX5_init_33 : decode cX5_init 33 = .ok (.newarray .int, 2) := by decide +kernel
theorem dX5_init_35 : decode cX5_init 35 = .ok (.putfield 19, 3) := by decide +kernel
theorem dX5_init_38 : decode cX5_init 38 = .ok (.aload_n 0, 1) := by decide +kernel
theorem dX5_init_39 : decode cX5_init 39 = .ok (.bipush 8, 2) := by decide +kernel
theorem dX5_init_41 : decode cX5_init 41 = .ok (.newarray .int, 2) := by decide +kernel
theorem dX5_init_43 : decode cX5_init 43 = .ok (.putfield 22, 3) := by decide +kernel
theorem dX5_init_46 : decode cX5_init 46 = .ok (.aload_n 0, 1) := by decide +kernel
theorem dX5_init_47 : decode cX5_init 47 = .ok (.bipush 96, 2) := by decide +kernel
theorem dX5_init_49 : decode cX5_init 49 = .ok (.newarray .int, 2) := by decide +kernel
theorem dX5_init_51 : decode cX5_init 51 = .ok (.putfield 25, 3) := by decide +kernel
theorem dX5_init_54 : decode cX5_init 54 = .ok (.aload_n 0, 1) := by decide +kernel
theorem dX5_init_55 : decode cX5_init 55 = .ok (.getfield 7, 3) := by decide +kernel
theorem dX5_init_58 : decode cX5_init 58 = .ok (.iconst 1, 1) := by decide +kernel
theorem dX5_init_59 : decode cX5_init 59 = .ok (.bipush 30, 2) := by decide +kernel
theorem dX5_init_61 : decode cX5_init 61 = .ok (.iastore, 1) := by decide +kernel
theorem dX5_init_62 : decode cX5_init 62 = .ok (.aload_n 0, 1) := by decide +kernel
theorem dX5_init_63 : decode cX5_init 63 = .ok (.getfield 7, 3) := by decide +kernel
theorem dX5_init_66 : decode cX5_init 66 = .ok (.iconst 3, 1) := by decide +kernel
theorem dX5_init_67 : decode cX5_init 67 = .ok (.iconst 4, 1) := by decide +kernel
theorem dX5_init_68 : decode cX5_init 68 = .ok (.iastore, 1) := by decide +kernel
theorem dX5_init_69 : decode cX5_init 69 = .ok (.return_, 1) := by decide +kernel
theorem dX5_in_0 : decode cX5_in 0 = .ok (.iload_n 0, 1) := by decide +kernel
theorem dX5_in_1 : decode cX5_in 1 = .ok (.iload_n 1, 1) := by decide +kernel
theorem dX5_in_2 : decode cX5_in 2 = .ok (.if_icmp .lt 12, 3) := by decide +kernel
theorem dX5_in_5 : decode cX5_in 5 = .ok (.iload_n 0, 1) := by decide +kernel
theorem dX5_in_6 : decode cX5_in 6 = .ok (.iload_n 2, 1) := by decide +kernel
theorem dX5_in_7 : decode cX5_in 7 = .ok (.if_icmp .gt 7, 3) := by decide +kernel
theorem dX5_in_10 : decode cX5_in 10 = .ok (.iconst 1, 1) := by decide +kernel
theorem dX5_in_11 : decode cX5_in 11 = .ok (.goto 4, 3) := by decide +kernel
theorem dX5_in_14 : decode cX5_in 14 = .ok (.iconst 0, 1) := by decide +kernel
theorem dX5_in_15 : decode cX5_in 15 = .ok (.ireturn, 1) := by decide +kernel
theorem dX5_records_0 : decode cX5_records 0 = .ok (.aload_n 0, 1) := by decide +kernel
theorem dX5_records_1 : decode cX5_records 1 = .ok (.getfield 28, 3) := by decide +kernel
theorem dX5_records_4 : decode cX5_records 4 = .ok (.bipush 8, 2) := by decide +kernel
theorem dX5_records_6 : decode cX5_records 6 = .ok (.if_icmp .ne 44, 3) := by decide +kernel
theorem dX5_records_9 : decode cX5_records 9 = .ok (.bipush 101, 2) := by decide +kernel
theorem dX5_records_11 : decode cX5_records 11 = .ok (.istore_n 1, 1) := by decide +kernel
theorem dX5_records_12 : decode cX5_records 12 = .ok (.iload_n 1, 1) := by decide +kernel
theorem dX5_records_13 : decode cX5_records 13 = .ok (.sipush 808, 3) := by decide +kernel
theorem dX5_records_16 : decode cX5_records 16 = .ok (.if_icmp .ge 24, 3) := by decide +kernel
theorem dX5_records_19 : decode cX5_records 19 = .ok (.aload_n 0, 1) := by decide +kernel
theorem dX5_records_20 : decode cX5_records 20 = .ok (.getfield 7, 3) := by decide +kernel
theorem dX5_records_23 : decode cX5_records 23 = .ok (.iload_n 1, 1) := by decide +kernel
theorem dX5_records_24 : decode cX5_records 24 = .ok (.aload_n 0, 1) := by decide +kernel
theorem dX5_records_25 : decode cX5_records 25 = .ok (.getfield 7, 3) := by decide +kernel
theorem dX5_records_28 : decode cX5_records 28 = .ok (.iload_n 1, 1) := by decide +kernel
theorem dX5_records_29 : decode cX5_records 29 = .ok (.bipush 101, 2) := by decide +kernel
theorem dX5_records_31 : decode cX5_records 31 = .ok (.iadd, 1) := by decide +kernel
theorem dX5_records_32 : decode cX5_records 32 = .ok (.iaload, 1) := by decide +kernel
theorem dX5_records_33 : decode cX5_records 33 = .ok (.iastore, 1) := by decide +kernel
theorem dX5_records_34 : decode cX5_records 34 = .ok (.iinc 1 1, 3) := by decide +kernel
theorem dX5_records_37 : decode cX5_records 37 = .ok (.goto (-25), 3) := by decide +kernel
theorem dX5_records_40 : decode cX5_records 40 = .ok (.aload_n 0, 1) := by decide +kernel
theorem dX5_records_41 : decode cX5_records 41 = .ok (.dup, 1) := by decide +kernel
theorem dX5_records_42 : decode cX5_records 42 = .ok (.getfield 28, 3) := by decide +kernel
theorem dX5_records_45 : decode cX5_records 45 = .ok (.iconst 1, 1) := by decide +kernel
theorem dX5_records_46 : decode cX5_records 46 = .ok (.isub, 1) := by decide +kernel
theorem dX5_records_47 : decode cX5_records 47 = .ok (.putfield 28, 3) := by decide +kernel
theorem dX5_records_50 : decode cX5_records 50 = .ok (.aload_n 0, 1) := by decide +kernel
theorem dX5_records_51 : decode cX5_records 51 = .ok (.dup, 1) := by decide +kernel
theorem dX5_records_52 : decode cX5_records 52 = .ok (.getfield 28, 3) := by decide +kernel
theorem dX5_records_55 : decode cX5_records 55 = .ok (.iconst 1, 1) := by decide +kernel
theorem dX5_records_56 : decode cX5_records 56 = .ok (.iadd, 1) := by decide +kernel
theorem dX5_records_57 : decode cX5_records 57 = .ok (.putfield 28, 3) := by decide +kernel
theorem dX5_records_60 : decode cX5_records 60 = .ok (.iconst 0, 1) := by decide +kernel
theorem dX5_records_61 : decode cX5_records 61 = .ok (.istore_n 1, 1) := by decide +kernel
theorem dX5_records_62 : decode cX5_records 62 = .ok (.iload_n 1, 1) := by decide +kernel
theorem dX5_records_63 : decode cX5_records 63 = .ok (.bipush 101, 2) := by decide +kernel
theorem dX5_records_65 : decode cX5_records 65 = .ok (.if_icmp .ge 29, 3) := by decide +kernel
theorem dX5_records_68 : decode cX5_records 68 = .ok (.aload_n 0, 1) := by decide +kernel
theorem dX5_records_69 : decode cX5_records 69 = .ok (.getfield 7, 3) := by decide +kernel
theorem dX5_records_72 : decode cX5_records 72 = .ok (.bipush 101, 2) := by decide +kernel
theorem dX5_records_74 : decode cX5_records 74 = .ok (.aload_n 0, 1) := by decide +kernel
theorem dX5_records_75 : decode cX5_records 75 = .ok (.getfield 28, 3) := by decide +kernel
theorem dX5_records_78 : decode cX5_records 78 = .ok (.imul, 1) := by decide +kernel
theorem dX5_records_79 : decode cX5_records 79 = .ok (.iload_n 1, 1) := by decide +kernel
theorem dX5_records_80 : decode cX5_records 80 = .ok (.iadd, 1) := by decide +kernel
theorem dX5_records_81 : decode cX5_records 81 = .ok (.aload_n 0, 1) := by decide +kernel
theorem dX5_records_82 : decode cX5_records 82 = .ok (.getfield 7, 3) := by decide +kernel
theorem dX5_records_85 : decode cX5_records 85 = .ok (.iload_n 1, 1) := by decide +kernel
theorem dX5_records_86 : decode cX5_records 86 = .ok (.iaload, 1) := by decide +kernel
theorem dX5_records_87 : decode cX5_records 87 = .ok (.iastore, 1) := by decide +kernel
theorem dX5_records_88 : decode cX5_records 88 = .ok (.iinc 1 1, 3) := by decide +kernel
theorem dX5_records_91 : decode cX5_records 91 = .ok (.goto (-29), 3) := by decide +kernel
theorem dX5_records_94 : decode cX5_records 94 = .ok (.return_, 1) := by decide +kernel
theorem dX5_begins_0 : decode cX5_begins 0 = .ok (.aload_n 0, 1) := by decide +kernel
theorem dX5_begins_1 : decode cX5_begins 1 = .ok (.getfield 7, 3) := by decide +kernel
theorem dX5_begins_4 : decode cX5_begins 4 = .ok (.iconst 5, 1) := by decide +kernel
theorem dX5_begins_5 : decode cX5_begins 5 = .ok (.iconst 4, 1) := by decide +kernel
theorem dX5_begins_6 : decode cX5_begins 6 = .ok (.iload_n 1, 1) := by decide +kernel
theorem dX5_begins_7 : decode cX5_begins 7 = .ok (.imul, 1) := by decide +kernel
theorem dX5_begins_8 : decode cX5_begins 8 = .ok (.iadd, 1) := by decide +kernel
theorem dX5_begins_9 : decode cX5_begins 9 = .ok (.iaload, 1) := by decide +kernel
theorem dX5_begins_10 : decode cX5_begins 10 = .ok (.ireturn, 1) := by decide +kernel
theorem dX5_ends_0 : decode cX5_ends 0 = .ok (.aload_n 0, 1) := by decide +kernel
theorem dX5_ends_1 : decode cX5_ends 1 = .ok (.getfield 7, 3) := by decide +kernel
theorem dX5_ends_4 : decode cX5_ends 4 = .ok (.iconst 5, 1) := by decide +kernel
theorem dX5_ends_5 : decode cX5_ends 5 = .ok (.iconst 4, 1) := by decide +kernel
theorem dX5_ends_6 : decode cX5_ends 6 = .ok (.iload_n 1, 1) := by decide +kernel
theorem dX5_ends_7 : decode cX5_ends 7 = .ok (.imul, 1) := by decide +kernel
theorem dX5_ends_8 : decode cX5_ends 8 = .ok (.iadd, 1) := by decide +kernel
theorem dX5_ends_9 : decode cX5_ends 9 = .ok (.iconst 1, 1) := by decide +kernel
theorem dX5_ends_10 : decode cX5_ends 10 = .ok (.iadd, 1) := by decide +kernel
theorem dX5_ends_11 : decode cX5_ends 11 = .ok (.iaload, 1) := by decide +kernel
theorem dX5_ends_12 : decode cX5_ends 12 = .ok (.ireturn, 1) := by decide +kernel
theorem dX5_timeOf_0 : decode cX5_timeOf 0 = .ok (.aload_n 0, 1) := by decide +kernel
theorem dX5_timeOf_1 : decode cX5_timeOf 1 = .ok (.getfield 7, 3) := by decide +kernel
theorem dX5_timeOf_4 : decode cX5_timeOf 4 = .ok (.iconst 5, 1) := by decide +kernel
theorem dX5_timeOf_5 : decode cX5_timeOf 5 = .ok (.iconst 4, 1) := by decide +kernel
theorem dX5_timeOf_6 : decode cX5_timeOf 6 = .ok (.iload_n 1, 1) := by decide +kernel
theorem dX5_timeOf_7 : decode cX5_timeOf 7 = .ok (.imul, 1) := by decide +kernel
theorem dX5_timeOf_8 : decode cX5_timeOf 8 = .ok (.iadd, 1) := by decide +kernel
theorem dX5_timeOf_9 : decode cX5_timeOf 9 = .ok (.iconst 2, 1) := by decide +kernel
theorem dX5_timeOf_10 : decode cX5_timeOf 10 = .ok (.iadd, 1) := by decide +kernel
theorem dX5_timeOf_11 : decode cX5_timeOf 11 = .ok (.iaload, 1) := by decide +kernel
theorem dX5_timeOf_12 : decode cX5_timeOf 12 = .ok (.ireturn, 1) := by decide +kernel
theorem dX5_rankOf_0 : decode cX5_rankOf 0 = .ok (.aload_n 0, 1) := by decide +kernel
theorem dX5_rankOf_1 : decode cX5_rankOf 1 = .ok (.getfield 7, 3) := by decide +kernel
theorem dX5_rankOf_4 : decode cX5_rankOf 4 = .ok (.iconst 5, 1) := by decide +kernel
theorem dX5_rankOf_5 : decode cX5_rankOf 5 = .ok (.iconst 4, 1) := by decide +kernel
theorem dX5_rankOf_6 : decode cX5_rankOf 6 = .ok (.iload_n 1, 1) := by decide +kernel
theorem dX5_rankOf_7 : decode cX5_rankOf 7 = .ok (.imul, 1) := by decide +kernel
theorem dX5_rankOf_8 : decode cX5_rankOf 8 = .ok (.iadd, 1) := by decide +kernel
theorem dX5_rankOf_9 : decode cX5_rankOf 9 = .ok (.iconst 3, 1) := by decide +kernel
theorem dX5_rankOf_10 : decode cX5_rankOf 10 = .ok (.iadd, 1) := by decide +kernel
theorem dX5_rankOf_11 : decode cX5_rankOf 11 = .ok (.iaload, 1) := by decide +kernel
theorem dX5_rankOf_12 : decode cX5_rankOf 12 = .ok (.ireturn, 1) := by decide +kernel
theorem dX5_isEntry_0 : decode cX5_isEntry 0 = .ok (.iload_n 1, 1) := by decide +kernel
theorem dX5_isEntry_1 : decode cX5_isEntry 1 = .ok (.iconst 0, 1) := by decide +kernel
theorem dX5_isEntry_2 : decode cX5_isEntry 2 = .ok (.aload_n 0, 1) := by decide +kernel
theorem dX5_isEntry_3 : decode cX5_isEntry 3 = .ok (.getfield 7, 3) := by decide +kernel
theorem dX5_isEntry_6 : decode cX5_isEntry 6 = .ok (.iconst 4, 1) := by decide +kernel
theorem dX5_isEntry_7 : decode cX5_isEntry 7 = .ok (.iaload, 1) := by decide +kernel
theorem dX5_isEntry_8 : decode cX5_isEntry 8 = .ok (.iconst 1, 1) := by decide +kernel
theorem dX5_isEntry_9 : decode cX5_isEntry 9 = .ok (.isub, 1) := by decide +kernel
theorem dX5_isEntry_10 : decode cX5_isEntry 10 = .ok (.invokestatic 32, 3) := by decide +kernel
theorem dX5_isEntry_13 : decode cX5_isEntry 13 = .ok (.ireturn, 1) := by decide +kernel
theorem dX5_isDay_0 : decode cX5_isDay 0 = .ok (.iload_n 0, 1) := by decide +kernel
theorem dX5_isDay_1 : decode cX5_isDay 1 = .ok (.iconst 0, 1) := by decide +kernel
theorem dX5_isDay_2 : decode cX5_isDay 2 = .ok (.sipush 999, 3) := by decide +kernel
theorem dX5_isDay_5 : decode cX5_isDay 5 = .ok (.invokestatic 32, 3) := by decide +kernel
theorem dX5_isDay_8 : decode cX5_isDay 8 = .ok (.ireturn, 1) := by decide +kernel
theorem dX5_isOnPage_0 : decode cX5_isOnPage 0 = .ok (.iload_n 1, 1) := by decide +kernel
theorem dX5_isOnPage_1 : decode cX5_isOnPage 1 = .ok (.aload_n 0, 1) := by decide +kernel
theorem dX5_isOnPage_2 : decode cX5_isOnPage 2 = .ok (.getfield 7, 3) := by decide +kernel
theorem dX5_isOnPage_5 : decode cX5_isOnPage 5 = .ok (.iconst 0, 1) := by decide +kernel
theorem dX5_isOnPage_6 : decode cX5_isOnPage 6 = .ok (.iaload, 1) := by decide +kernel
theorem dX5_isOnPage_7 : decode cX5_isOnPage 7 = .ok (.aload_n 0, 1) := by decide +kernel
theorem dX5_isOnPage_8 : decode cX5_isOnPage 8 = .ok (.getfield 7, 3) := by decide +kernel
theorem dX5_isOnPage_11 : decode cX5_isOnPage 11 = .ok (.iconst 1, 1) := by decide +kernel
theorem dX5_isOnPage_12 : decode cX5_isOnPage 12 = .ok (.iaload, 1) := by decide +kernel
theorem dX5_isOnPage_13 : decode cX5_isOnPage 13 = .ok (.invokestatic 32, 3) := by decide +kernel
theorem dX5_isOnPage_16 : decode cX5_isOnPage 16 = .ok (.ireturn, 1) := by decide +kernel
theorem dX5_isLong_0 : decode cX5_isLong 0 = .ok (.aload_n 0, 1) := by decide +kernel
theorem dX5_isLong_1 : decode cX5_isLong 1 = .ok (.iload_n 1, 1) := by decide +kernel
theorem dX5_isLong_2 : decode cX5_isLong 2 = .ok (.invokevirtual 36, 3) := by decide +kernel
theorem dX5_isLong_5 : decode cX5_isLong 5 = .ok (.aload_n 0, 1) := by decide +kernel
theorem dX5_isLong_6 : decode cX5_isLong 6 = .ok (.iload_n 1, 1) := by decide +kernel
theorem dX5_isLong_7 : decode cX5_isLong 7 = .ok (.invokevirtual 40, 3) := by decide +kernel
theorem dX5_isLong_10 : decode cX5_isLong 10 = .ok (.if_icmp .gt 13, 3) := by decide +kernel
theorem dX5_isLong_13 : decode cX5_isLong 13 = .ok (.aload_n 0, 1) := by decide +kernel
theorem dX5_isLong_14 : decode cX5_isLong 14 = .ok (.iload_n 1, 1) := by decide +kernel
theorem dX5_isLong_15 : decode cX5_isLong 15 = .ok (.invokevirtual 43, 3) := by decide +kernel
theorem dX5_isLong_18 : decode cX5_isLong 18 = .ok (.bipush (-9), 2) := by decide +kernel
theorem dX5_isLong_20 : decode cX5_isLong 20 = .ok (.if_icmp .ne 7, 3) := by decide +kernel
theorem dX5_isLong_23 : decode cX5_isLong 23 = .ok (.iconst 1, 1) := by decide +kernel
theorem dX5_isLong_24 : decode cX5_isLong 24 = .ok (.goto 4, 3) := by decide +kernel
theorem dX5_isLong_27 : decode cX5_isLong 27 = .ok (.iconst 0, 1) := by decide +kernel
theorem dX5_isLong_28 : decode cX5_isLong 28 = .ok (.ireturn, 1) := by decide +kernel
theorem dX5_isOn_0 : decode cX5_isOn 0 = .ok (.iload_n 2, 1) := by decide +kernel
theorem dX5_isOn_1 : decode cX5_isOn 1 = .ok (.aload_n 0, 1) := by decide +kernel
theorem dX5_isOn_2 : decode cX5_isOn 2 = .ok (.iload_n 1, 1) := by decide +kernel
theorem dX5_isOn_3 : decode cX5_isOn 3 = .ok (.invokevirtual 40, 3) := by decide +kernel
theorem dX5_isOn_6 : decode cX5_isOn 6 = .ok (.aload_n 0, 1) := by decide +kernel
theorem dX5_isOn_7 : decode cX5_isOn 7 = .ok (.iload_n 1, 1) := by decide +kernel
theorem dX5_isOn_8 : decode cX5_isOn 8 = .ok (.invokevirtual 36, 3) := by decide +kernel
theorem dX5_isOn_11 : decode cX5_isOn 11 = .ok (.invokestatic 32, 3) := by decide +kernel
theorem dX5_isOn_14 : decode cX5_isOn 14 = .ok (.ireturn, 1) := by decide +kernel
theorem dX5_weekOf_0 : decode cX5_weekOf 0 = .ok (.iconst 0, 1) := by decide +kernel
theorem dX5_weekOf_1 : decode cX5_weekOf 1 = .ok (.istore_n 2, 1) := by decide +kernel
theorem dX5_weekOf_2 : decode cX5_weekOf 2 = .ok (.aload_n 0, 1) := by decide +kernel
theorem dX5_weekOf_3 : decode cX5_weekOf 3 = .ok (.getfield 7, 3) := by decide +kernel
theorem dX5_weekOf_6 : decode cX5_weekOf 6 = .ok (.iconst 0, 1) := by decide +kernel
theorem dX5_weekOf_7 : decode cX5_weekOf 7 = .ok (.iaload, 1) := by decide +kernel
theorem dX5_weekOf_8 : decode cX5_weekOf 8 = .ok (.iconst 1, 1) := by decide +kernel
theorem dX5_weekOf_9 : decode cX5_weekOf 9 = .ok (.iadd, 1) := by decide +kernel
theorem dX5_weekOf_10 : decode cX5_weekOf 10 = .ok (.istore_n 3, 1) := by decide +kernel
theorem dX5_weekOf_11 : decode cX5_weekOf 11 = .ok (.iload_n 3, 1) := by decide +kernel
theorem dX5_weekOf_12 : decode cX5_weekOf 12 = .ok (.iload_n 1, 1) := by decide +kernel
theorem dX5_weekOf_13 : decode cX5_weekOf 13 = .ok (.if_icmp .gt 30, 3) := by decide +kernel
theorem dX5_weekOf_16 : decode cX5_weekOf 16 = .ok (.iload_n 2, 1) := by decide +kernel
theorem dX5_weekOf_17 : decode cX5_weekOf 17 = .ok (.iload_n 3, 1) := by decide +kernel
theorem dX5_weekOf_18 : decode cX5_weekOf 18 = .ok (.bipush 7, 2) := by decide +kernel
theorem dX5_weekOf_20 : decode cX5_weekOf 20 = .ok (.irem, 1) := by decide +kernel
theorem dX5_weekOf_21 : decode cX5_weekOf 21 = .ok (.aload_n 0, 1) := by decide +kernel
theorem dX5_weekOf_22 : decode cX5_weekOf 22 = .ok (.getfield 7, 3) := by decide +kernel
theorem dX5_weekOf_25 : decode cX5_weekOf 25 = .ok (.iconst 2, 1) := by decide +kernel
theorem dX5_weekOf_26 : decode cX5_weekOf 26 = .ok (.iaload, 1) := by decide +kernel
theorem dX5_weekOf_27 : decode cX5_weekOf 27 = .ok (.if_icmp .ne 7, 3) := by decide +kernel
theorem dX5_weekOf_30 : decode cX5_weekOf 30 = .ok (.iconst 1, 1) := by decide +kernel
theorem dX5_weekOf_31 : decode cX5_weekOf 31 = .ok (.goto 4, 3) := by decide +kernel
theorem dX5_weekOf_34 : decode cX5_weekOf 34 = .ok (.iconst 0, 1) := by decide +kernel
theorem dX5_weekOf_35 : decode cX5_weekOf 35 = .ok (.iadd, 1) := by decide +kernel
theorem dX5_weekOf_36 : decode cX5_weekOf 36 = .ok (.istore_n 2, 1) := by decide +kernel
theorem dX5_weekOf_37 : decode cX5_weekOf 37 = .ok (.iinc 3 1, 3) := by decide +kernel
theorem dX5_weekOf_40 : decode cX5_weekOf 40 = .ok (.goto (-29), 3) := by decide +kernel
theorem dX5_weekOf_43 : decode cX5_weekOf 43 = .ok (.iload_n 2, 1) := by decide +kernel
theorem dX5_weekOf_44 : decode cX5_weekOf 44 = .ok (.ireturn, 1) := by decide +kernel
theorem dX5_weeks_0 : decode cX5_weeks 0 = .ok (.aload_n 0, 1) := by decide +kernel
theorem dX5_weeks_1 : decode cX5_weeks 1 = .ok (.aload_n 0, 1) := by decide +kernel
theorem dX5_weeks_2 : decode cX5_weeks 2 = .ok (.getfield 7, 3) := by decide +kernel
theorem dX5_weeks_5 : decode cX5_weeks 5 = .ok (.iconst 1, 1) := by decide +kernel
theorem dX5_weeks_6 : decode cX5_weeks 6 = .ok (.iaload, 1) := by decide +kernel
theorem dX5_weeks_7 : decode cX5_weeks 7 = .ok (.invokevirtual 46, 3) := by decide +kernel
theorem dX5_weeks_10 : decode cX5_weeks 10 = .ok (.iconst 1, 1) := by decide +kernel
theorem dX5_weeks_11 : decode cX5_weeks 11 = .ok (.iadd, 1) := by decide +kernel
theorem dX5_weeks_12 : decode cX5_weeks 12 = .ok (.ireturn, 1) := by decide +kernel
theorem dX5_weekFirst_0 : decode cX5_weekFirst 0 = .ok (.aload_n 0, 1) := by decide +kernel
theorem dX5_weekFirst_1 : decode cX5_weekFirst 1 = .ok (.getfield 7, 3) := by decide +kernel
theorem dX5_weekFirst_4 : decode cX5_weekFirst 4 = .ok (.iconst 0, 1) := by decide +kernel
theorem dX5_weekFirst_5 : decode cX5_weekFirst 5 = .ok (.iaload, 1) := by decide +kernel
theorem dX5_weekFirst_6 : decode cX5_weekFirst 6 = .ok (.istore_n 2, 1) := by decide +kernel
theorem dX5_weekFirst_7 : decode cX5_weekFirst 7 = .ok (.aload_n 0, 1) := by decide +kernel
theorem dX5_weekFirst_8 : decode cX5_weekFirst 8 = .ok (.iload_n 2, 1) := by decide +kernel
theorem dX5_weekFirst_9 : decode cX5_weekFirst 9 = .ok (.invokevirtual 46, 3) := by decide +kernel
theorem dX5_weekFirst_12 : decode cX5_weekFirst 12 = .ok (.iload_n 1, 1) := by decide +kernel
theorem dX5_weekFirst_13 : decode cX5_weekFirst 13 = .ok (.if_icmp .ge 9, 3) := by decide +kernel
theorem dX5_weekFirst_16 : decode cX5_weekFirst 16 = .ok (.iinc 2 1, 3) := by decide +kernel
theorem dX5_weekFirst_19 : decode cX5_weekFirst 19 = .ok (.goto (-12), 3) := by decide +kernel
theorem dX5_weekFirst_22 : decode cX5_weekFirst 22 = .ok (.iload_n 2, 1) := by decide +kernel
theorem dX5_weekFirst_23 : decode cX5_weekFirst 23 = .ok (.ireturn, 1) := by decide +kernel
theorem dX5_weekLast_0 : decode cX5_weekLast 0 = .ok (.aload_n 0, 1) := by decide +kernel
theorem dX5_weekLast_1 : decode cX5_weekLast 1 = .ok (.getfield 7, 3) := by decide +kernel
theorem dX5_weekLast_4 : decode cX5_weekLast 4 = .ok (.iconst 1, 1) := by decide +kernel
theorem dX5_weekLast_5 : decode cX5_weekLast 5 = .ok (.iaload, 1) := by decide +kernel
theorem dX5_weekLast_6 : decode cX5_weekLast 6 = .ok (.istore_n 2, 1) := by decide +kernel
theorem dX5_weekLast_7 : decode cX5_weekLast 7 = .ok (.aload_n 0, 1) := by decide +kernel
theorem dX5_weekLast_8 : decode cX5_weekLast 8 = .ok (.iload_n 2, 1) := by decide +kernel
theorem dX5_weekLast_9 : decode cX5_weekLast 9 = .ok (.invokevirtual 46, 3) := by decide +kernel
theorem dX5_weekLast_12 : decode cX5_weekLast 12 = .ok (.iload_n 1, 1) := by decide +kernel
theorem dX5_weekLast_13 : decode cX5_weekLast 13 = .ok (.if_icmp .le 9, 3) := by decide +kernel
theorem dX5_weekLast_16 : decode cX5_weekLast 16 = .ok (.iinc 2 (-1), 3) := by decide +kernel
theorem dX5_weekLast_19 : decode cX5_weekLast 19 = .ok (.goto (-12), 3) := by decide +kernel
theorem dX5_weekLast_22 : decode cX5_weekLast 22 = .ok (.iload_n 2, 1) := by decide +kernel
theorem dX5_weekLast_23 : decode cX5_weekLast 23 = .ok (.ireturn, 1) := by decide +kernel
theorem dX5_setPage_0 : decode cX5_setPage 0 = .ok (.iload_n 1, 1) := by decide +kernel
theorem dX5_setPage_1 : decode cX5_setPage 1 = .ok (.invokestatic 49, 3) := by decide +kernel
theorem dX5_setPage_4 : decode cX5_setPage 4 = .ok (.ifCond .eq 23, 3) := by decide +kernel
theorem dX5_setPage_7 : decode cX5_setPage 7 = .ok (.iload_n 2, 1) := by decide +kernel
theorem dX5_setPage_8 : decode cX5_setPage 8 = .ok (.invokestatic 49, 3) := by decide +kernel
theorem dX5_setPage_11 : decode cX5_setPage 11 = .ok (.ifCond .eq 16, 3) := by decide +kernel
theorem dX5_setPage_14 : decode cX5_setPage 14 = .ok (.iload_n 2, 1) := by decide +kernel
theorem dX5_setPage_15 : decode cX5_setPage 15 = .ok (.iload_n 1, 1) := by decide +kernel
theorem dX5_setPage_16 : decode cX5_setPage 16 = .ok (.if_icmp .lt 11, 3) := by decide +kernel
theorem dX5_setPage_19 : decode cX5_setPage 19 = .ok (.iload_n 2, 1) := by decide +kernel
theorem dX5_setPage_20 : decode cX5_setPage 20 = .ok (.iload_n 1, 1) := by decide +kernel
theorem dX5_setPage_21 : decode cX5_setPage 21 = .ok (.bipush 41, 2) := by decide +kernel
theorem dX5_setPage_23 : decode cX5_setPage 23 = .ok (.iadd, 1) := by decide +kernel
theorem dX5_setPage_24 : decode cX5_setPage 24 = .ok (.if_icmp .le 5, 3) := by decide +kernel
theorem dX5_setPage_27 : decode cX5_setPage 27 = .ok (.iconst (-1), 1) := by decide +kernel
theorem dX5_setPage_28 : decode cX5_setPage 28 = .ok (.ireturn, 1) := by decide +kernel
theorem dX5_setPage_29 : decode cX5_setPage 29 = .ok (.aload_n 0, 1) := by decide +kernel
theorem dX5_setPage_30 : decode cX5_setPage 30 = .ok (.invokevirtual 53, 3) := by decide +kernel
theorem dX5_setPage_33 : decode cX5_setPage 33 = .ok (.aload_n 0, 1) := by decide +kernel
theorem dX5_setPage_34 : decode cX5_setPage 34 = .ok (.getfield 7, 3) := by decide +kernel
theorem dX5_setPage_37 : decode cX5_setPage 37 = .ok (.iconst 0, 1) := by decide +kernel
theorem dX5_setPage_38 : decode cX5_setPage 38 = .ok (.iload_n 1, 1) := by decide +kernel
theorem dX5_setPage_39 : decode cX5_setPage 39 = .ok (.iastore, 1) := by decide +kernel
theorem dX5_setPage_40 : decode cX5_setPage 40 = .ok (.aload_n 0, 1) := by decide +kernel
theorem dX5_setPage_41 : decode cX5_setPage 41 = .ok (.getfield 7, 3) := by decide +kernel
theorem dX5_setPage_44 : decode cX5_setPage 44 = .ok (.iconst 1, 1) := by decide +kernel
theorem dX5_setPage_45 : decode cX5_setPage 45 = .ok (.iload_n 2, 1) := by decide +kernel
theorem dX5_setPage_46 : decode cX5_setPage 46 = .ok (.iastore, 1) := by decide +kernel
theorem dX5_setPage_47 : decode cX5_setPage 47 = .ok (.aload_n 0, 1) := by decide +kernel
theorem dX5_setPage_48 : decode cX5_setPage 48 = .ok (.invokevirtual 56, 3) := by decide +kernel
theorem dX5_setPage_51 : decode cX5_setPage 51 = .ok (.ireturn, 1) := by decide +kernel
theorem dX5_setWeek_0 : decode cX5_setWeek 0 = .ok (.iload_n 1, 1) := by decide +kernel
theorem dX5_setWeek_1 : decode cX5_setWeek 1 = .ok (.iconst 0, 1) := by decide +kernel
theorem dX5_setWeek_2 : decode cX5_setWeek 2 = .ok (.bipush 6, 2) := by decide +kernel
theorem dX5_setWeek_4 : decode cX5_setWeek 4 = .ok (.invokestatic 32, 3) := by decide +kernel
theorem dX5_setWeek_7 : decode cX5_setWeek 7 = .ok (.ifCond .ne 5, 3) := by decide +kernel
theorem dX5_setWeek_10 : decode cX5_setWeek 10 = .ok (.iconst (-1), 1) := by decide +kernel
theorem dX5_setWeek_11 : decode cX5_setWeek 11 = .ok (.ireturn, 1) := by decide +kernel
theorem dX5_setWeek_12 : decode cX5_setWeek 12 = .ok (.aload_n 0, 1) := by decide +kernel
theorem dX5_setWeek_13 : decode cX5_setWeek 13 = .ok (.invokevirtual 53, 3) := by decide +kernel
theorem dX5_setWeek_16 : decode cX5_setWeek 16 = .ok (.aload_n 0, 1) := by decide +kernel
theorem dX5_setWeek_17 : decode cX5_setWeek 17 = .ok (.getfield 7, 3) := by decide +kernel
theorem dX5_setWeek_20 : decode cX5_setWeek 20 = .ok (.iconst 2, 1) := by decide +kernel
theorem dX5_setWeek_21 : decode cX5_setWeek 21 = .ok (.iload_n 1, 1) := by decide +kernel
theorem dX5_setWeek_22 : decode cX5_setWeek 22 = .ok (.iastore, 1) := by decide +kernel
theorem dX5_setWeek_23 : decode cX5_setWeek 23 = .ok (.aload_n 0, 1) := by decide +kernel
theorem dX5_setWeek_24 : decode cX5_setWeek 24 = .ok (.invokevirtual 56, 3) := by decide +kernel
theorem dX5_setWeek_27 : decode cX5_setWeek 27 = .ok (.ireturn, 1) := by decide +kernel
theorem dX5_setRows_0 : decode cX5_setRows 0 = .ok (.iload_n 1, 1) := by decide +kernel
theorem dX5_setRows_1 : decode cX5_setRows 1 = .ok (.iconst 1, 1) := by decide +kernel
theorem dX5_setRows_2 : decode cX5_setRows 2 = .ok (.bipush 12, 2) := by decide +kernel
theorem dX5_setRows_4 : decode cX5_setRows 4 = .ok (.invokestatic 32, 3) := by decide +kernel
theorem dX5_setRows_7 : decode cX5_setRows 7 = .ok (.ifCond .ne 5, 3) := by decide +kernel
theorem dX5_setRows_10 : decode cX5_setRows 10 = .ok (.iconst (-1), 1) := by decide +kernel
