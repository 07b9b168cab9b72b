theorem dX0_init_0 : decode cX0_init 0 = .ok (.aload_n 0, 1) := by decide +kernel
theorem dX0_init_1 : decode cX0_init 1 = .ok (.invokespecial 3, 3) := by decide +kernel
theorem dX0_init_4 : decode cX0_init 4 = .ok (.aload_n 0, 1) := by decide +kernel
theorem dX0_init_5 : decode cX0_init 5 = .ok (.sipush 200, 3) := by decide +kernel
theorem dX0_init_8 : decode cX0_init 8 = .ok (.putfield 9, 3) := by decide +kernel
theorem dX0_init_11 : decode cX0_init 11 = .ok (.aload_n 0, 1) := by decide +kernel
theorem dX0_init_12 : decode cX0_init 12 = .ok (.iconst 0, 1) := by decide +kernel
theorem dX0_init_13 : decode cX0_init 13 = .ok (.putfield 15, 3) := by decide +kernel
theorem dX0_init_16 : decode cX0_init 16 = .ok (.aload_n 0, 1) := by decide +kernel
theorem dX0_init_17 : decode cX0_init 17 = .ok (.iconst 0, 1) := by decide +kernel
theorem dX0_init_18 : decode cX0_init 18 = .ok (.putfield 18, 3) := by decide +kernel
theorem dX0_init_21 : decode cX0_init 21 = .ok (.aload_n 0, 1) := by decide +kernel
theorem dX0_init_22 : decode cX0_init 22 = .ok (.iconst 0, 1) := by decide +kernel
theorem dX0_init_23 : decode cX0_init 23 = .ok (.putfield 21, 3) := by decide +kernel
theorem dX0_init_26 : decode cX0_init 26 = .ok (.aload_n 0, 1) := by decide +kernel
theorem dX0_init_27 : decode cX0_init 27 = .ok (.bipush 6, 2) := by decide +kernel
theorem dX0_init_29 : decode cX0_init 29 = .ok (.newarray .int, 2) := by decide +kernel
theorem dX0_init_31 : decode cX0_init 31 = .ok (.putfield 24, 3) := by decide +kernel
theorem dX0_init_34 : decode cX0_init 34 = .ok (.aload_n 0, 1) := by decide +kernel
theorem dX0_init_35 : decode cX0_init 35 = .ok (.bipush 6, 2) := by decide +kernel
theorem dX0_init_37 : decode cX0_init 37 = .ok (.newarray .int, 2) := by decide +kernel
theorem dX0_init_39 : decode cX0_init 39 = .ok (.putfield 28, 3) := by decide +kernel
theorem dX0_init_42 : decode cX0_init 42 = .ok (.aload_n 0, 1) := by decide +kernel
theorem dX0_init_43 : decode cX0_init 43 = .ok (.bipush 6, 2) := by decide +kernel
theorem dX0_init_45 : decode cX0_init 45 = .ok (.newarray .int, 2) := by decide +kernel
theorem dX0_init_47 : decode cX0_init 47 = .ok (.putfield 31, 3) := by decide +kernel
theorem dX0_init_50 : decode cX0_init 50 = .ok (.aload_n 0, 1) := by decide +kernel
theorem dX0_init_51 : decode cX0_init 51 = .ok (.bipush 6, 2) := by decide +kernel
theorem dX0_init_53 : decode cX0_init 53 = .ok (.newarray .int, 2) := by decide +kernel
theorem dX0_init_55 : decode cX0_init 55 = .ok (.putfield 34, 3) := by decide +kernel
theorem dX0_init_58 : decode cX0_init 58 = .ok (.aload_n 0, 1) := by decide +kernel
theorem dX0_init_59 : decode cX0_init 59 = .ok (.iconst 0, 1) := by decide +kernel
theorem dX0_init_60 : decode cX0_init 60 = .ok (.putfield 37, 3) := by decide +kernel
theorem dX0_init_63 : decode cX0_init 63 = .ok (.aload_n 0, 1) := by decide +kernel
theorem dX0_init_64 : decode cX0_init 64 = .ok (.bipush 40, 2) := by decide +kernel
theorem dX0_init_66 : decode cX0_init 66 = .ok (.newarray .int, 2) := by decide +kernel
theorem dX0_init_68 : decode cX0_init 68 = .ok (.putfield 40, 3) := by decide +kernel
theorem dX0_init_71 : decode cX0_init 71 = .ok (.aload_n 0, 1) := by decide +kernel
theorem dX0_init_72 : decode cX0_init 72 = .ok (.bipush 40, 2) := by decide +kernel
theorem dX0_init_74 : decode cX0_init 74 = .ok (.newarray .int, 2) := by decide +kernel
theorem dX0_init_76 : decode cX0_init 76 = .ok (.putfield 43, 3) := by decide +kernel
theorem dX0_init_79 : decode cX0_init 79 = .ok (.return_, 1) := by decide +kernel
theorem dX0_hasFlower_0 : decode cX0_hasFlower 0 = .ok (.iload_n 1, 1) := by decide +kernel
theorem dX0_hasFlower_1 : decode cX0_hasFlower 1 = .ok (.ifCond .lt 15, 3) := by decide +kernel
theorem dX0_hasFlower_4 : decode cX0_hasFlower 4 = .ok (.iload_n 1, 1) := by decide +kernel
theorem dX0_hasFlower_5 : decode cX0_hasFlower 5 = .ok (.aload_n 0, 1) := by decide +kernel
theorem dX0_hasFlower_6 : decode cX0_hasFlower 6 = .ok (.getfield 21, 3) := by decide +kernel
theorem dX0_hasFlower_9 : decode cX0_hasFlower 9 = .ok (.if_icmp .ge 7, 3) := by decide +kernel
theorem dX0_hasFlower_12 : decode cX0_hasFlower 12 = .ok (.iconst 1, 1) := by decide +kernel
theorem dX0_hasFlower_13 : decode cX0_hasFlower 13 = .ok (.goto 4, 3) := by decide +kernel
theorem dX0_hasFlower_16 : decode cX0_hasFlower 16 = .ok (.iconst 0, 1) := by decide +kernel
theorem dX0_hasFlower_17 : decode cX0_hasFlower 17 = .ok (.ireturn, 1) := by decide +kernel
theorem dX0_hasStem_0 : decode cX0_hasStem 0 = .ok (.iload_n 1, 1) := by decide +kernel
theorem dX0_hasStem_1 : decode cX0_hasStem 1 = .ok (.ifCond .lt 15, 3) := by decide +kernel
theorem dX0_hasStem_4 : decode cX0_hasStem 4 = .ok (.iload_n 1, 1) := by decide +kernel
theorem dX0_hasStem_5 : decode cX0_hasStem 5 = .ok (.aload_n 0, 1) := by decide +kernel
theorem dX0_hasStem_6 : decode cX0_hasStem 6 = .ok (.getfield 37, 3) := by decide +kernel
theorem dX0_hasStem_9 : decode cX0_hasStem 9 = .ok (.if_icmp .ge 7, 3) := by decide +kernel
theorem dX0_hasStem_12 : decode cX0_hasStem 12 = .ok (.iconst 1, 1) := by decide +kernel
theorem dX0_hasStem_13 : decode cX0_hasStem 13 = .ok (.goto 4, 3) := by decide +kernel
theorem dX0_hasStem_16 : decode cX0_hasStem 16 = .ok (.iconst 0, 1) := by decide +kernel
theorem dX0_hasStem_17 : decode cX0_hasStem 17 = .ok (.ireturn, 1) := by decide +kernel
theorem dX0_addFlower_0 : decode cX0_addFlower 0 = .ok (.iload_n 1, 1) := by decide +kernel
theorem dX0_addFlower_1 : decode cX0_addFlower 1 = .ok (.invokestatic 46, 3) := by decide +kernel
theorem dX0_addFlower_4 : decode cX0_addFlower 4 = .ok (.ifCond .eq 13, 3) := by decide +kernel
theorem dX0_addFlower_7 : decode cX0_addFlower 7 = .ok (.iload_n 2, 1) := by decide +kernel
theorem dX0_addFlower_8 : decode cX0_addFlower 8 = .ok (.ifCond .lt 9, 3) := by decide +kernel
theorem dX0_addFlower_11 : decode cX0_addFlower 11 = .ok (.iload_n 2, 1) := by decide +kernel
theorem dX0_addFlower_12 : decode cX0_addFlower 12 = .ok (.bipush 9, 2) := by decide +kernel
theorem dX0_addFlower_14 : decode cX0_addFlower 14 = .ok (.if_icmp .le 6, 3) := by decide +kernel
theorem dX0_addFlower_17 : decode cX0_addFlower 17 = .ok (.bipush (-2), 2) := by decide +kernel
theorem dX0_addFlower_19 : decode cX0_addFlower 19 = .ok (.ireturn, 1) := by decide +kernel
theorem dX0_addFlower_20 : decode cX0_addFlower 20 = .ok (.aload_n 0, 1) := by decide +kernel
theorem dX0_addFlower_21 : decode cX0_addFlower 21 = .ok (.getfield 21, 3) := by decide +kernel
theorem dX0_addFlower_24 : decode cX0_addFlower 24 = .ok (.bipush 6, 2) := by decide +kernel
theorem dX0_addFlower_26 : decode cX0_addFlower 26 = .ok (.if_icmp .lt 6, 3) := by decide +kernel
theorem dX0_addFlower_29 : decode cX0_addFlower 29 = .ok (.bipush (-4), 2) := by decide +kernel
theorem dX0_addFlower_31 : decode cX0_addFlower 31 = .ok (.ireturn, 1) := by decide +kernel
theorem dX0_addFlower_32 : decode cX0_addFlower 32 = .ok (.aload_n 0, 1) := by decide +kernel
theorem dX0_addFlower_33 : decode cX0_addFlower 33 = .ok (.getfield 24, 3) := by decide +kernel
theorem dX0_addFlower_36 : decode cX0_addFlower 36 = .ok (.aload_n 0, 1) := by decide +kernel
theorem dX0_addFlower_37 : decode cX0_addFlower 37 = .ok (.getfield 21, 3) := by decide +kernel
theorem dX0_addFlower_40 : decode cX0_addFlower 40 = .ok (.iload_n 1, 1) := by decide +kernel
theorem dX0_addFlower_41 : decode cX0_addFlower 41 = .ok (.iastore, 1) := by decide +kernel
theorem dX0_addFlower_42 : decode cX0_addFlower 42 = .ok (.aload_n 0, 1) := by decide +kernel
theorem dX0_addFlower_43 : decode cX0_addFlower 43 = .ok (.getfield 28, 3) := by decide +kernel
theorem dX0_addFlower_46 : decode cX0_addFlower 46 = .ok (.aload_n 0, 1) := by decide +kernel
theorem dX0_addFlower_47 : decode cX0_addFlower 47 = .ok (.getfield 21, 3) := by decide +kernel
theorem dX0_addFlower_50 : decode cX0_addFlower 50 = .ok (.iload_n 2, 1) := by decide +kernel
theorem dX0_addFlower_51 : decode cX0_addFlower 51 = .ok (.iastore, 1) := by decide +kernel
theorem dX0_addFlower_52 : decode cX0_addFlower 52 = .ok (.aload_n 0, 1) := by decide +kernel
theorem dX0_addFlower_53 : decode cX0_addFlower 53 = .ok (.getfield 31, 3) := by decide +kernel
theorem dX0_addFlower_56 : decode cX0_addFlower 56 = .ok (.aload_n 0, 1) := by decide +kernel
theorem dX0_addFlower_57 : decode cX0_addFlower 57 = .ok (.getfield 21, 3) := by decide +kernel
theorem dX0_addFlower_60 : decode cX0_addFlower 60 = .ok (.iconst 0, 1) := by decide +kernel
theorem dX0_addFlower_61 : decode cX0_addFlower 61 = .ok (.iastore, 1) := by decide +kernel
theorem dX0_addFlower_62 : decode cX0_addFlower 62 = .ok (.aload_n 0, 1) := by decide +kernel
theorem dX0_addFlower_63 : decode cX0_addFlower 63 = .ok (.getfield 34, 3) := by decide +kernel
theorem dX0_addFlower_66 : decode cX0_addFlower 66 = .ok (.aload_n 0, 1) := by decide +kernel
theorem dX0_addFlower_67 : decode cX0_addFlower 67 = .ok (.getfield 21, 3) := by decide +kernel
theorem dX0_addFlower_70 : decode cX0_addFlower 70 = .ok (.bipush 10, 2) := by decide +kernel
theorem dX0_addFlower_72 : decode cX0_addFlower 72 = .ok (.iastore, 1) := by decide +kernel
theorem dX0_addFlower_73 : decode cX0_addFlower 73 = .ok (.aload_n 0, 1) := by decide +kernel
theorem dX0_addFlower_74 : decode cX0_addFlower 74 = .ok (.dup, 1) := by decide +kernel
theorem dX0_addFlower_75 : decode cX0_addFlower 75 = .ok (.getfield 21, 3) := by decide +kernel
theorem dX0_addFlower_78 : decode cX0_addFlower 78 = .ok (.iconst 1, 1) := by decide +kernel
theorem dX0_addFlower_79 : decode cX0_addFlower 79 = .ok (.iadd, 1) := by decide +kernel
theorem dX0_addFlower_80 : decode cX0_addFlower 80 = .ok (.putfield 21, 3) := by decide +kernel
theorem dX0_addFlower_83 : decode cX0_addFlower 83 = .ok (.aload_n 0, 1) := by decide +kernel
theorem dX0_addFlower_84 : decode cX0_addFlower 84 = .ok (.getfield 21, 3) := by decide +kernel
theorem dX0_addFlower_87 : decode cX0_addFlower 87 = .ok (.iconst 1, 1) := by decide +kernel
theorem dX0_addFlower_88 : decode cX0_addFlower 88 = .ok (.isub, 1) := by decide +kernel
theorem dX0_addFlower_89 : decode cX0_addFlower 89 = .ok (.ireturn, 1) := by decide +kernel
theorem dX0_settingOf_0 : decode cX0_settingOf 0 = .ok (.iload_n 1, 1) := by decide +kernel
theorem dX0_settingOf_1 : decode cX0_settingOf 1 = .ok (.ifCond .ne 8, 3) := by decide +kernel
theorem dX0_settingOf_4 : decode cX0_settingOf 4 = .ok (.aload_n 0, 1) := by decide +kernel
theorem dX0_settingOf_5 : decode cX0_settingOf 5 = .ok (.getfield 9, 3) := by decide +kernel
theorem dX0_settingOf_8 : decode cX0_settingOf 8 = .ok (.ireturn, 1) := by decide +kernel
theorem dX0_settingOf_9 : decode cX0_settingOf 9 = .ok (.iload_n 1, 1) := by decide +kernel
theorem dX0_settingOf_10 : decode cX0_settingOf 10 = .ok (.iconst 1, 1) := by decide +kernel
theorem dX0_settingOf_11 : decode cX0_settingOf 11 = .ok (.if_icmp .ne 8, 3) := by decide +kernel
theorem dX0_settingOf_14 : decode cX0_settingOf 14 = .ok (.aload_n 0, 1) := by decide +kernel
theorem dX0_settingOf_15 : decode cX0_settingOf 15 = .ok (.getfield 15, 3) := by decide +kernel
theorem dX0_settingOf_18 : decode cX0_settingOf 18 = .ok (.ireturn, 1) := by decide +kernel
theorem dX0_settingOf_19 : decode cX0_settingOf 19 = .ok (.aload_n 0, 1) := by decide +kernel
theorem dX0_settingOf_20 : decode cX0_settingOf 20 = .ok (.iload_n 2, 1) := by decide +kernel
theorem dX0_settingOf_21 : decode cX0_settingOf 21 = .ok (.invokevirtual 52, 3) := by decide +kernel
theorem dX0_settingOf_24 : decode cX0_settingOf 24 = .ok (.ifCond .ne 6, 3) := by decide +kernel
theorem dX0_settingOf_27 : decode cX0_settingOf 27 = .ok (.bipush (-2), 2) := by decide +kernel
theorem dX0_settingOf_29 : decode cX0_settingOf 29 = .ok (.ireturn, 1) := by decide +kernel
theorem dX0_settingOf_30 : decode cX0_settingOf 30 = .ok (.iload_n 1, 1) := by decide +kernel
theorem dX0_settingOf_31 : decode cX0_settingOf 31 = .ok (.tableswitch 46 2 4 #[25, 32, 39], 25) := by decide +kernel
theorem dX0_settingOf_56 : decode cX0_settingOf 56 = .ok (.aload_n 0, 1) := by decide +kernel
theorem dX0_settingOf_57 : decode cX0_settingOf 57 = .ok (.getfield 28, 3) := by decide +kernel
theorem dX0_settingOf_60 : decode cX0_settingOf 60 = .ok (.iload_n 2, 1) := by decide +kernel
theorem dX0_settingOf_61 : decode cX0_settingOf 61 = .ok (.iaload, 1) := by decide +kernel
theorem dX0_settingOf_62 : decode cX0_settingOf 62 = .ok (.ireturn, 1) := by decide +kernel
theorem dX0_settingOf_63 : decode cX0_settingOf 63 = .ok (.aload_n 0, 1) := by decide +kernel
theorem dX0_settingOf_64 : decode cX0_settingOf 64 = .ok (.getfield 31, 3) := by decide +kernel
theorem dX0_settingOf_67 : decode cX0_settingOf 67 = .ok (.iload_n 2, 1) := by decide +kernel
theorem dX0_settingOf_68 : decode cX0_settingOf 68 = .ok (.iaload, 1) := by decide +kernel
theorem dX0_settingOf_69 : decode cX0_settingOf 69 = .ok (.ireturn, 1) := by decide +kernel
theorem dX0_settingOf_70 : decode cX0_settingOf 70 = .ok (.aload_n 0, 1) := by decide +kernel
theorem dX0_settingOf_71 : decode cX0_settingOf 71 = .ok (.getfield 34, 3) := by decide +kernel
theorem dX0_settingOf_74 : decode cX0_settingOf 74 = .ok (.iload_n 2, 1) := by decide +kernel
theorem dX0_settingOf_75 : decode cX0_settingOf 75 = .ok (.iaload, 1) := by decide +kernel
theorem dX0_settingOf_76 : decode cX0_settingOf 76 = .ok (.ireturn, 1) := by decide +kernel
theorem dX0_settingOf_77 : decode cX0_settingOf 77 = .ok (.bipush (-2), 2) := by decide +kernel
theorem dX0_settingOf_79 : decode cX0_settingOf 79 = .ok (.ireturn, 1) := by decide +kernel
theorem dX0_change_0 : decode cX0_change 0 = .ok (.iload_n 1, 1) := by decide +kernel
theorem dX0_change_1 : decode cX0_change 1 = .ok (.ifCond .ne 11, 3) := by decide +kernel
theorem dX0_change_4 : decode cX0_change 4 = .ok (.aload_n 0, 1) := by decide +kernel
theorem dX0_change_5 : decode cX0_change 5 = .ok (.iload_n 3, 1) := by decide +kernel
theorem dX0_change_6 : decode cX0_change 6 = .ok (.putfield 9, 3) := by decide +kernel
theorem dX0_change_9 : decode cX0_change 9 = .ok (.goto 81, 3) := by decide +kernel
theorem dX0_change_12 : decode cX0_change 12 = .ok (.iload_n 1, 1) := by decide +kernel
theorem dX0_change_13 : decode cX0_change 13 = .ok (.iconst 1, 1) := by decide +kernel
theorem dX0_change_14 : decode cX0_change 14 = .ok (.if_icmp .ne 11, 3) := by decide +kernel
theorem dX0_change_17 : decode cX0_change 17 = .ok (.aload_n 0, 1) := by decide +kernel
theorem dX0_change_18 : decode cX0_change 18 = .ok (.iload_n 3, 1) := by decide +kernel
theorem dX0_change_19 : decode cX0_change 19 = .ok (.putfield 15, 3) := by decide +kernel
theorem dX0_change_22 : decode cX0_change 22 = .ok (.goto 68, 3) := by decide +kernel
theorem dX0_change_25 : decode cX0_change 25 = .ok (.aload_n 0, 1) := by decide +kernel
theorem dX0_change_26 : decode cX0_change 26 = .ok (.iload_n 2, 1) := by decide +kernel
theorem dX0_change_27 : decode cX0_change 27 = .ok (.invokevirtual 52, 3) := by decide +kernel
theorem dX0_change_30 : decode cX0_change 30 = .ok (.ifCond .eq 60, 3) := by decide +kernel
theorem dX0_change_33 : decode cX0_change 33 = .ok (.iload_n 1, 1) := by decide +kernel
theorem dX0_change_34 : decode cX0_change 34 = .ok (.tableswitch 56 2 4 #[26, 36, 46], 26) := by decide +kernel
theorem dX0_change_60 : decode cX0_change 60 = .ok (.aload_n 0, 1) := by decide +kernel
theorem dX0_change_61 : decode cX0_change 61 = .ok (.getfield 28, 3) := by decide +kernel
theorem dX0_change_64 : decode cX0_change 64 = .ok (.iload_n 2, 1) := by decide +kernel
theorem dX0_change_65 : decode cX0_change 65 = .ok (.iload_n 3, 1) := by decide +kernel
theorem dX0_change_66 : decode cX0_change 66 = .ok (.iastore, 1) := by decide +kernel
theorem dX0_change_67 : decode cX0_change 67 = .ok (.goto 23, 3) := by decide +kernel
theorem dX0_change_70 : decode cX0_change 70 = .ok (.aload_n 0, 1) := by decide +kernel
theorem dX0_change_71 : decode cX0_change 71 = .ok (.getfield 31, 3) := by decide +kernel
theorem dX0_change_74 : decode cX0_change 74 = .ok (.iload_n 2, 1) := by decide +kernel
theorem dX0_change_75 : decode cX0_change 75 = .ok (.iload_n 3, 1) := by decide +kernel
theorem dX0_change_76 : decode cX0_change 76 = .ok (.iastore, 1) := by decide +kernel
theorem dX0_change_77 : decode cX0_change 77 = .ok (.goto 13, 3) := by decide +kernel
theorem dX0_change_80 : decode cX0_change 80 = .ok (.aload_n 0, 1) := by decide +kernel
theorem dX0_change_81 : decode cX0_change 81 = .ok (.getfield 34, 3) := by decide +kernel
theorem dX0_change_84 : decode cX0_change 84 = .ok (.iload_n 2, 1) := by decide +kernel
theorem dX0_change_85 : decode cX0_change 85 = .ok (.iload_n 3, 1) := by decide +kernel
theorem dX0_change_86 : decode cX0_change 86 = .ok (.iastore, 1) := by decide +kernel
theorem dX0_change_87 : decode cX0_change 87 = .ok (.goto 3, 3) := by decide +kernel
theorem dX0_change_90 : decode cX0_change 90 = .ok (.return_, 1) := by decide +kernel
theorem dX0_addStem_0 : decode cX0_addStem 0 = .ok (.aload_n 0, 1) := by decide +kernel
theorem dX0_addStem_1 : decode cX0_addStem 1 = .ok (.getfield 37, 3) := by decide +kernel
theorem dX0_addStem_4 : decode cX0_addStem 4 = .ok (.bipush 40, 2) := by decide +kernel
theorem dX0_addStem_6 : decode cX0_addStem 6 = .ok (.if_icmp .ge 51, 3) := by decide +kernel
theorem dX0_addStem_9 : decode cX0_addStem 9 = .ok (.aload_n 0, 1) := by decide +kernel
theorem dX0_addStem_10 : decode cX0_addStem 10 = .ok (.iload_n 1, 1) := by decide +kernel
theorem dX0_addStem_11 : decode cX0_addStem 11 = .ok (.invokevirtual 52, 3) := by decide +kernel
theorem dX0_addStem_14 : decode cX0_addStem 14 = .ok (.ifCond .eq 43, 3) := by decide +kernel
theorem dX0_addStem_17 : decode cX0_addStem 17 = .ok (.aload_n 0, 1) := by decide +kernel
theorem dX0_addStem_18 : decode cX0_addStem 18 = .ok (.getfield 40, 3) := by decide +kernel
theorem dX0_addStem_21 : decode cX0_addStem 21 = .ok (.aload_n 0, 1) := by decide +kernel
theorem dX0_addStem_22 : decode cX0_addStem 22 = .ok (.getfield 37, 3) := by decide +kernel
theorem dX0_addStem_25 : decode cX0_addStem 25 = .ok (.iload_n 1, 1) := by decide +kernel
theorem dX0_addStem_26 : decode cX0_addStem 26 = .ok (.iastore, 1) := by decide +kernel
theorem dX0_addStem_27 : decode cX0_addStem 27 = .ok (.aload_n 0, 1) := by decide +kernel
theorem dX0_addStem_28 : decode cX0_addStem 28 = .ok (.getfield 43, 3) := by decide +kernel
theorem dX0_addStem_31 : decode cX0_addStem 31 = .ok (.aload_n 0, 1) := by decide +kernel
theorem dX0_addStem_32 : decode cX0_addStem 32 = .ok (.getfield 37, 3) := by decide +kernel
theorem dX0_addStem_35 : decode cX0_addStem 35 = .ok (.iload_n 2, 1) := by decide +kernel
theorem dX0_addStem_36 : decode cX0_addStem 36 = .ok (.iastore, 1) := by decide +kernel
theorem dX0_addStem_37 : decode cX0_addStem 37 = .ok (.aload_n 0, 1) := by decide +kernel
theorem dX0_addStem_38 : decode cX0_addStem 38 = .ok (.dup, 1) := by decide +kernel
theorem dX0_addStem_39 : decode cX0_addStem 39 = .ok (.getfield 37, 3) := by decide +kernel
theorem dX0_addStem_42 : decode cX0_addStem 42 = .ok (.iconst 1, 1) := by decide +kernel
theorem dX0_addStem_43 : decode cX0_addStem 43 = .ok (.iadd, 1) := by decide +kernel
theorem dX0_addStem_44 : decode cX0_addStem 44 = .ok (.putfield 37, 3) := by decide +kernel
theorem dX0_addStem_47 : decode cX0_addStem 47 = .ok (.aload_n 0, 1) := by decide +kernel
theorem dX0_addStem_48 : decode cX0_addStem 48 = .ok (.getfield 34, 3) := by decide +kernel
theorem dX0_addStem_51 : decode cX0_addStem 51 = .ok (.iload_n 1, 1) := by decide +kernel
theorem dX0_addStem_52 : decode cX0_addStem 52 = .ok (.dup2, 1) := by decide +kernel
theorem dX0_addStem_53 : decode cX0_addStem 53 = .ok (.iaload, 1) := by decide +kernel
theorem dX0_addStem_54 : decode cX0_addStem 54 = .ok (.iconst 1, 1) := by decide +kernel
theorem dX0_addStem_55 : decode cX0_addStem 55 = .ok (.isub, 1) := by decide +kernel
theorem dX0_addStem_56 : decode cX0_addStem 56 = .ok (.iastore, 1) := by decide +kernel
theorem dX0_addStem_57 : decode cX0_addStem 57 = .ok (.return_, 1) := by decide +kernel
theorem dX0_removeStem_0 : decode cX0_removeStem 0 = .ok (.aload_n 0, 1) := by decide +kernel
theorem dX0_removeStem_1 : decode cX0_removeStem 1 = .ok (.iload_n 1, 1) := by decide +kernel
theorem dX0_removeStem_2 : decode cX0_removeStem 2 = .ok (.invokevirtual 55, 3) := by decide +kernel
theorem dX0_removeStem_5 : decode cX0_removeStem 5 = .ok (.ifCond .ne 6, 3) := by decide +kernel
theorem dX0_removeStem_8 : decode cX0_removeStem 8 = .ok (.bipush (-2), 2) := by decide +kernel
theorem dX0_removeStem_10 : decode cX0_removeStem 10 = .ok (.ireturn, 1) := by decide +kernel
theorem dX0_removeStem_11 : decode cX0_removeStem 11 = .ok (.aload_n 0, 1) := by decide +kernel
theorem dX0_removeStem_12 : decode cX0_removeStem 12 = .ok (.getfield 40, 3) := by decide +kernel
theorem dX0_removeStem_15 : decode cX0_removeStem 15 = .ok (.iload_n 1, 1) := by decide +kernel
theorem dX0_removeStem_16 : decode cX0_removeStem 16 = .ok (.iaload, 1) := by decide +kernel
theorem dX0_removeStem_17 : decode cX0_removeStem 17 = .ok (.istore_n 2, 1) := by decide +kernel
theorem dX0_removeStem_18 : decode cX0_removeStem 18 = .ok (.iload_n 1, 1) := by decide +kernel
theorem dX0_removeStem_19 : decode cX0_removeStem 19 = .ok (.istore_n 3, 1) := by decide +kernel
theorem dX0_removeStem_20 : decode cX0_removeStem 20 = .ok (.iload_n 3, 1) := by decide +kernel
theorem dX0_removeStem_21 : decode cX0_removeStem 21 = .ok (.aload_n 0, 1) := by decide +kernel
theorem dX0_removeStem_22 : decode cX0_removeStem 22 = .ok (.getfield 37, 3) := by decide +kernel
theorem dX0_removeStem_25 : decode cX0_removeStem 25 = .ok (.iconst 1, 1) := by decide +kernel
theorem dX0_removeStem_26 : decode cX0_removeStem 26 = .ok (.isub, 1) := by decide +kernel
theorem dX0_removeStem_27 : decode cX0_removeStem 27 = .ok (.if_icmp .ge 37, 3) := by decide +kernel
theorem dX0_removeStem_30 : decode cX0_removeStem 30 = .ok (.aload_n 0, 1) := by decide +kernel
theorem dX0_removeStem_31 : decode cX0_removeStem 31 = .ok (.getfield 40, 3) := by decide +kernel
theorem dX0_removeStem_34 : decode cX0_removeStem 34 = .ok (.iload_n 3, 1) := by decide +kernel
theorem dX0_removeStem_35 : decode cX0_removeStem 35 = .ok (.aload_n 0, 1) := by decide +kernel
theorem dX0_removeStem_36 : decode cX0_removeStem 36 = .ok (.getfield 40, 3) := by decide +kernel
theorem dX0_removeStem_39 : decode cX0_removeStem 39 = .ok (.iload_n 3, 1) := by decide +kernel
theorem dX0_removeStem_40 : decode cX0_removeStem 40 = .ok (.iconst 1, 1) := by decide +kernel
theorem dX0_removeStem_41 : decode cX0_removeStem 41 = .ok (.iadd, 1) := by decide +kernel
theorem dX0_removeStem_42 : decode cX0_removeStem 42 = .ok (.iaload, 1) := by decide +kernel
theorem dX0_removeStem_43 : decode cX0_removeStem 43 = .ok (.iastore, 1) := by decide +kernel
theorem dX0_removeStem_44 : decode cX0_removeStem 44 = .ok (.aload_n 0, 1) := by decide +kernel
theorem dX0_removeStem_45 : decode cX0_removeStem 45 = .ok (.getfield 43, 3) := by decide +kernel
theorem dX0_removeStem_48 : decode cX0_removeStem 48 = .ok (.iload_n 3, 1) := by decide +kernel
theorem dX0_removeStem_49 : decode cX0_removeStem 49 = .ok (.aload_n 0, 1) := by decide +kernel
theorem dX0_removeStem_50 : decode cX0_removeStem 50 = .ok (.getfield 43, 3) := by decide +kernel
theorem dX0_removeStem_53 : decode cX0_removeStem 53 = .ok (.iload_n 3, 1) := by decide +kernel
theorem dX0_removeStem_54 : decode cX0_removeStem 54 = .ok (.iconst 1, 1) := by decide +kernel
theorem dX0_removeStem_55 : decode cX0_removeStem 55 = .ok (.iadd, 1) := by decide +kernel
theorem dX0_removeStem_56 : decode cX0_removeStem 56 = .ok (.iaload, 1) := by decide +kernel
theorem dX0_removeStem_57 : decode cX0_removeStem 57 = .ok (.iastore, 1) := by decide +kernel
theorem dX0_removeStem_58 : decode cX0_removeStem 58 = .ok (.iinc 3 1, 3) := by decide +kernel
theorem dX0_removeStem_61 : decode cX0_removeStem 61 = .ok (.goto (-41), 3) := by decide +kernel
theorem dX0_removeStem_64 : decode cX0_removeStem 64 = .ok (.aload_n 0, 1) := by decide +kernel
theorem dX0_removeStem_65 : decode cX0_removeStem 65 = .ok (.dup, 1) := by decide +kernel
theorem dX0_removeStem_66 : decode cX0_removeStem 66 = .ok (.getfield 37, 3) := by decide +kernel
theorem dX0_removeStem_69 : decode cX0_removeStem 69 = .ok (.iconst 1, 1) := by decide +kernel
theorem dX0_removeStem_70 : decode cX0_removeStem 70 = .ok (.isub, 1) := by decide +kernel
theorem dX0_removeStem_71 : decode cX0_removeStem 71 = .ok (.putfield 37, 3) := by decide +kernel
theorem dX0_removeStem_74 : decode cX0_removeStem 74 = .ok (.aload_n 0, 1) := by decide +kernel
theorem dX0_removeStem_75 : decode cX0_removeStem 75 = .ok (.iload_n 2, 1) := by decide +kernel
theorem dX0_removeStem_76 : decode cX0_removeStem 76 = .ok (.invokevirtual 52, 3) := by decide +kernel
theorem dX0_removeStem_79 : decode cX0_removeStem 79 = .ok (.ifCond .eq 22, 3) := by decide +kernel
theorem dX0_removeStem_82 : decode cX0_removeStem 82 = .ok (.aload_n 0, 1) := by decide +kernel
theorem dX0_removeStem_83 : decode cX0_removeStem 83 = .ok (.getfield 34, 3) := by decide +kernel
theorem dX0_removeStem_86 : decode cX0_removeStem 86 = .ok (.iload_n 2, 1) := by decide +kernel
theorem dX0_removeStem_87 : decode cX0_removeStem 87 = .ok (.bipush 40, 2) := by decide +kernel
theorem dX0_removeStem_89 : decode cX0_removeStem 89 = .ok (.aload_n 0, 1) := by decide +kernel
theorem dX0_removeStem_90 : decode cX0_removeStem 90 = .ok (.getfield 34, 3) := by decide +kernel
theorem dX0_removeStem_93 : decode cX0_removeStem 93 = .ok (.iload_n 2, 1) := by decide +kernel
theorem dX0_removeStem_94 : decode cX0_removeStem 94 = .ok (.iaload, 1) := by decide +kernel
theorem dX0_removeStem_95 : decode cX0_removeStem 95 = .ok (.iconst 1, 1) := by decide +kernel
theorem dX0_removeStem_96 : decode cX0_removeStem 96 = .ok (.iadd, 1) := by decide +kernel
theorem dX0_removeStem_97 : decode cX0_removeStem 97 = .ok (.invokestatic 58, 3) := by decide +kernel
theorem dX0_removeStem_100 : decode cX0_removeStem 100 = .ok (.iastore, 1) := by decide +kernel
theorem dX0_removeStem_101 : decode cX0_removeStem 101 = .ok (.iload_n 2, 1) := by decide +kernel
theorem dX0_removeStem_102 : decode cX0_removeStem 102 = .ok (.ireturn, 1) := by decide +kernel
theorem dX0_lastAngle_0 : decode cX0_lastAngle 0 = .ok (.aload_n 0, 1) := by decide +kernel
theorem dX0_lastAngle_1 : decode cX0_lastAngle 1 = .ok (.getfield 37, 3) := by decide +kernel
theorem dX0_lastAngle_4 : decode cX0_lastAngle 4 = .ok (.ifCond .le 26, 3) := by decide +kernel
theorem dX0_lastAngle_7 : decode cX0_lastAngle 7 = .ok (.aload_n 0, 1) := by decide +kernel
theorem dX0_lastAngle_8 : decode cX0_lastAngle 8 = .ok (.getfield 37, 3) := by decide +kernel
theorem dX0_lastAngle_11 : decode cX0_lastAngle 11 = .ok (.bipush 40, 2) := by decide +kernel
theorem dX0_lastAngle_13 : decode cX0_lastAngle 13 = .ok (.if_icmp .gt 17, 3) := by decide +kernel
theorem dX0_lastAngle_16 : decode cX0_lastAngle 16 = .ok (.aload_n 0, 1) := by decide +kernel
theorem dX0_lastAngle_17 : decode cX0_lastAngle 17 = .ok (.getfield 43, 3) := by decide +kernel
theorem dX0_lastAngle_20 : decode cX0_lastAngle 20 = .ok (.aload_n 0, 1) := by decide +kernel
theorem dX0_lastAngle_21 : decode cX0_lastAngle 21 = .ok (.getfield 37, 3) := by decide +kernel
theorem dX0_lastAngle_24 : decode cX0_lastAngle 24 = .ok (.iconst 1, 1) := by decide +kernel
theorem dX0_lastAngle_25 : decode cX0_lastAngle 25 = .ok (.isub, 1) := by decide +kernel
theorem dX0_lastAngle_26 : decode cX0_lastAngle 26 = .ok (.iaload, 1) := by decide +kernel
theorem dX0_lastAngle_27 : decode cX0_lastAngle 27 = .ok (.goto 7, 3) := by decide +kernel
theorem dX0_lastAngle_30 : decode cX0_lastAngle 30 = .ok (.aload_n 0, 1) := by decide +kernel
theorem dX0_lastAngle_31 : decode cX0_lastAngle 31 = .ok (.getfield 15, 3) := by decide +kernel
theorem dX0_lastAngle_34 : decode cX0_lastAngle 34 = .ok (.ireturn, 1) := by decide +kernel
theorem dX0_roomLeft_0 : decode cX0_roomLeft 0 = .ok (.aload_n 0, 1) := by decide +kernel
theorem dX0_roomLeft_1 : decode cX0_roomLeft 1 = .ok (.getfield 9, 3) := by decide +kernel
theorem dX0_roomLeft_4 : decode cX0_roomLeft 4 = .ok (.istore_n 1, 1) := by decide +kernel
theorem dX0_roomLeft_5 : decode cX0_roomLeft 5 = .ok (.iconst 0, 1) := by decide +kernel
theorem dX0_roomLeft_6 : decode cX0_roomLeft 6 = .ok (.istore_n 2, 1) := by decide +kernel
theorem dX0_roomLeft_7 : decode cX0_roomLeft 7 = .ok (.iload_n 2, 1) := by decide +kernel
theorem dX0_roomLeft_8 : decode cX0_roomLeft 8 = .ok (.aload_n 0, 1) := by decide +kernel
theorem dX0_roomLeft_9 : decode cX0_roomLeft 9 = .ok (.getfield 37, 3) := by decide +kernel
theorem dX0_roomLeft_12 : decode cX0_roomLeft 12 = .ok (.if_icmp .ge 22, 3) := by decide +kernel
theorem dX0_roomLeft_15 : decode cX0_roomLeft 15 = .ok (.iload_n 1, 1) := by decide +kernel
theorem dX0_roomLeft_16 : decode cX0_roomLeft 16 = .ok (.aload_n 0, 1) := by decide +kernel
theorem dX0_roomLeft_17 : decode cX0_roomLeft 17 = .ok (.aload_n 0, 1) := by decide +kernel
theorem dX0_roomLeft_18 : decode cX0_roomLeft 18 = .ok (.getfield 40, 3) := by decide +kernel
theorem dX0_roomLeft_21 : decode cX0_roomLeft 21 = .ok (.iload_n 2, 1) := by decide +kernel
theorem dX0_roomLeft_22 : decode cX0_roomLeft 22 = .ok (.iaload, 1) := by decide +kernel
theorem dX0_roomLeft_23 : decode cX0_roomLeft 23 = .ok (.invokevirtual 64, 3) := by decide +kernel
theorem dX0_roomLeft_26 : decode cX0_roomLeft 26 = .ok (.isub, 1) := by decide +kernel
theorem dX0_roomLeft_27 : decode cX0_roomLeft 27 = .ok (.istore_n 1, 1) := by decide +kernel
theorem dX0_roomLeft_28 : decode cX0_roomLeft 28 = .ok (.iinc 2 1, 3) := by decide +kernel
theorem dX0_roomLeft_31 : decode cX0_roomLeft 31 = .ok (.goto (-24), 3) := by decide +kernel
theorem dX0_roomLeft_34 : decode cX0_roomLeft 34 = .ok (.iload_n 1, 1) := by decide +kernel
theorem dX0_roomLeft_35 : decode cX0_roomLeft 35 = .ok (.ireturn, 1) := by decide +kernel
theorem dX0_thickOf_0 : decode cX0_thickOf 0 = .ok (.aload_n 0, 1) := by decide +kernel
theorem dX0_thickOf_1 : decode cX0_thickOf 1 = .ok (.iload_n 1, 1) := by decide +kernel
theorem dX0_thickOf_2 : decode cX0_thickOf 2 = .ok (.invokevirtual 52, 3) := by decide +kernel
theorem dX0_thickOf_5 : decode cX0_thickOf 5 = .ok (.ifCond .eq 21, 3) := by decide +kernel
theorem dX0_thickOf_8 : decode cX0_thickOf 8 = .ok (.aload_n 0, 1) := by decide +kernel
theorem dX0_thickOf_9 : decode cX0_thickOf 9 = .ok (.getfield 24, 3) := by decide +kernel
theorem dX0_thickOf_12 : decode cX0_thickOf 12 = .ok (.iload_n 1, 1) := by decide +kernel
theorem dX0_thickOf_13 : decode cX0_thickOf 13 = .ok (.iaload, 1) := by decide +kernel
theorem dX0_thickOf_14 : decode cX0_thickOf 14 = .ok (.aload_n 0, 1) := by decide +kernel
theorem dX0_thickOf_15 : decode cX0_thickOf 15 = .ok (.getfield 28, 3) := by decide +kernel
theorem dX0_thickOf_18 : decode cX0_thickOf 18 = .ok (.iload_n 1, 1) := by decide +kernel
theorem dX0_thickOf_19 : decode cX0_thickOf 19 = .ok (.iaload, 1) := by decide +kernel
theorem dX0_thickOf_20 : decode cX0_thickOf 20 = .ok (.invokestatic 68, 3) := by decide +kernel
theorem dX0_thickOf_23 : decode cX0_thickOf 23 = .ok (.goto 4, 3) := by decide +kernel
theorem dX0_thickOf_26 : decode cX0_thickOf 26 = .ok (.iconst 0, 1) := by decide +kernel
theorem dX0_thickOf_27 : decode cX0_thickOf 27 = .ok (.ireturn, 1) := by decide +kernel
theorem dX0_colourOf_0 : decode cX0_colourOf 0 = .ok (.aload_n 0, 1) := by decide +kernel
theorem dX0_colourOf_1 : decode cX0_colourOf 1 = .ok (.iload_n 1, 1) := by decide +kernel
theorem dX0_colourOf_2 : decode cX0_colourOf 2 = .ok (.invokevirtual 52, 3) := by decide +kernel
theorem dX0_colourOf_5 : decode cX0_colourOf 5 = .ok (.ifCond .eq 12, 3) := by decide +kernel
theorem dX0_colourOf_8 : decode cX0_colourOf 8 = .ok (.aload_n 0, 1) := by decide +kernel
theorem dX0_colourOf_9 : decode cX0_colourOf 9 = .ok (.getfield 31, 3) := by decide +kernel
theorem dX0_colourOf_12 : decode cX0_colourOf 12 = .ok (.iload_n 1, 1) := by decide +kernel
theorem dX0_colourOf_13 : decode cX0_colourOf 13 = .ok (.iaload, 1) := by decide +kernel
theorem dX0_colourOf_14 : decode cX0_colourOf 14 = .ok (.goto 4, 3) := by decide +kernel
theorem dX0_colourOf_17 : decode cX0_colourOf 17 = .ok (.iconst 0, 1) := by decide +kernel
theorem dX0_colourOf_18 : decode cX0_colourOf 18 = .ok (.ireturn, 1) := by decide +kernel
theorem dX0_stemsOf_0 : decode cX0_stemsOf 0 = .ok (.iconst 0, 1) := by decide +kernel
theorem dX0_stemsOf_1 : decode cX0_stemsOf 1 = .ok (.istore_n 2, 1) := by decide +kernel
theorem dX0_stemsOf_2 : decode cX0_stemsOf 2 = .ok (.iconst 0, 1) := by decide +kernel
theorem dX0_stemsOf_3 : decode cX0_stemsOf 3 = .ok (.istore_n 3, 1) := by decide +kernel
theorem dX0_stemsOf_4 : decode cX0_stemsOf 4 = .ok (.iload_n 3, 1) := by decide +kernel
theorem dX0_stemsOf_5 : decode cX0_stemsOf 5 = .ok (.aload_n 0, 1) := by decide +kernel
theorem dX0_stemsOf_6 : decode cX0_stemsOf 6 = .ok (.getfield 37, 3) := by decide +kernel
theorem dX0_stemsOf_9 : decode cX0_stemsOf 9 = .ok (.if_icmp .ge 22, 3) := by decide +kernel
theorem dX0_stemsOf_12 : decode cX0_stemsOf 12 = .ok (.aload_n 0, 1) := by decide +kernel
theorem dX0_stemsOf_13 : decode cX0_stemsOf 13 = .ok (.getfield 40, 3) := by decide +kernel
theorem dX0_stemsOf_16 : decode cX0_stemsOf 16 = .ok (.iload_n 3, 1) := by decide +kernel
theorem dX0_stemsOf_17 : decode cX0_stemsOf 17 = .ok (.iaload, 1) := by decide +kernel
theorem dX0_stemsOf_18 : decode cX0_stemsOf 18 = .ok (.iload_n 1, 1) := by decide +kernel
theorem dX0_stemsOf_19 : decode cX0_stemsOf 19 = .ok (.if_icmp .ne 6, 3) := by decide +kernel
theorem dX0_stemsOf_22 : decode cX0_stemsOf 22 = .ok (.iinc 2 1, 3) := by decide +kernel
theorem dX0_stemsOf_25 : decode cX0_stemsOf 25 = .ok (.iinc 3 1, 3) := by decide +kernel
theorem dX0_stemsOf_28 : decode cX0_stemsOf 28 = .ok (.goto (-24), 3) := by decide +kernel
theorem dX0_stemsOf_31 : decode cX0_stemsOf 31 = .ok (.iload_n 2, 1) := by decide +kernel
theorem dX0_stemsOf_32 : decode cX0_stemsOf 32 = .ok (.ireturn, 1) := by decide +kernel
theorem dX0_stemsOfColour_0 : decode cX0_stemsOfColour 0 = .ok (.iconst 0, 1) := by decide +kernel
theorem dX0_stemsOfColour_1 : decode cX0_stemsOfColour 1 = .ok (.istore_n 2, 1) := by decide +kernel
theorem dX0_stemsOfColour_2 : decode cX0_stemsOfColour 2 = .ok (.iconst 0, 1) := by decide +kernel
theorem dX0_stemsOfColour_3 : decode cX0_stemsOfColour 3 = .ok (.istore_n 3, 1) := by decide +kernel
theorem dX0_stemsOfColour_4 : decode cX0_stemsOfColour 4 = .ok (.iload_n 3, 1) := by decide +kernel
theorem dX0_stemsOfColour_5 : decode cX0_stemsOfColour 5 = .ok (.aload_n 0, 1) := by decide +kernel
theorem dX0_stemsOfColour_6 : decode cX0_stemsOfColour 6 = .ok (.getfield 37, 3) := by decide +kernel
theorem dX0_stemsOfColour_9 : decode cX0_stemsOfColour 9 = .ok (.if_icmp .ge 26, 3) := by decide +kernel
theorem dX0_stemsOfColour_12 : decode cX0_stemsOfColour 12 = .ok (.aload_n 0, 1) := by decide +kernel
theorem dX0_stemsOfColour_13 : decode cX0_stemsOfColour 13 = .ok (.aload_n 0, 1) := by decide +kernel
theorem dX0_stemsOfColour_14 : decode cX0_stemsOfColour 14 = .ok (.getfield 40, 3) := by decide +kernel
theorem dX0_stemsOfColour_17 : decode cX0_stemsOfColour 17 = .ok (.iload_n 3, 1) := by decide +kernel
theorem dX0_stemsOfColour_18 : decode cX0_stemsOfColour 18 = .ok (.iaload, 1) := by decide +kernel
theorem dX0_stemsOfColour_19 : decode cX0_stemsOfColour 19 = .ok (.invokevirtual 71, 3) := by decide +kernel
theorem dX0_stemsOfColour_22 : decode cX0_stemsOfColour 22 = .ok (.iload_n 1, 1) := by decide +kernel
theorem dX0_stemsOfColour_23 : decode cX0_stemsOfColour 23 = .ok (.if_icmp .ne 6, 3) := by decide +kernel
theorem dX0_stemsOfColour_26 : decode cX0_stemsOfColour 26 = .ok (.iinc 2 1, 3) := by decide +kernel
theorem dX0_stemsOfColour_29 : decode cX0_stemsOfColour 29 = .ok (.iinc 3 1, 3) := by decide +kernel
theorem dX0_stemsOfColour_32 : decode cX0_stemsOfColour 32 = .ok (.goto (-28), 3) := by decide +kernel
theorem dX0_stemsOfColour_35 : decode cX0_stemsOfColour 35 = .ok (.iload_n 2, 1) := by decide +kernel
theorem dX0_stemsOfColour_36 : decode cX0_stemsOfColour 36 = .ok (.ireturn, 1) := by decide +kernel
theorem dX0_stemsInQuarter_0 : decode cX0_stemsInQuarter 0 = .ok (.iconst 0, 1) := by decide +kernel
theorem dX0_stemsInQuarter_1 : decode cX0_stemsInQuarter 1 = .ok (.istore_n 2, 1) := by decide +kernel
theorem dX0_stemsInQuarter_2 : decode cX0_stemsInQuarter 2 = .ok (.iconst 0, 1) := by decide +kernel
theorem dX0_stemsInQuarter_3 : decode cX0_stemsInQuarter 3 = .ok (.istore_n 3, 1) := by decide +kernel
theorem dX0_stemsInQuarter_4 : decode cX0_stemsInQuarter 4 = .ok (.iload_n 3, 1) := by decide +kernel
theorem dX0_stemsInQuarter_5 : decode cX0_stemsInQuarter 5 = .ok (.aload_n 0, 1) := by decide +kernel
theorem dX0_stemsInQuarter_6 : decode cX0_stemsInQuarter 6 = .ok (.getfield 37, 3) := by decide +kernel
theorem dX0_stemsInQuarter_9 : decode cX0_stemsInQuarter 9 = .ok (.if_icmp .ge 24, 3) := by decide +kernel
theorem dX0_stemsInQuarter_12 : decode cX0_stemsInQuarter 12 = .ok (.aload_n 0, 1) := by decide +kernel
theorem dX0_stemsInQuarter_13 : decode cX0_stemsInQuarter 13 = .ok (.getfield 43, 3) := by decide +kernel
theorem dX0_stemsInQuarter_16 : decode cX0_stemsInQuarter 16 = .ok (.iload_n 3, 1) := by decide +kernel
theorem dX0_stemsInQuarter_17 : decode cX0_stemsInQuarter 17 = .ok (.iaload, 1) := by decide +kernel
theorem dX0_stemsInQuarter_18 : decode cX0_stemsInQuarter 18 = .ok (.iconst 4, 1) := by decide +kernel
theorem dX0_stemsInQuarter_19 : decode cX0_stemsInQuarter 19 = .ok (.idiv, 1) := by decide +kernel
theorem dX0_stemsInQuarter_20 : decode cX0_stemsInQuarter 20 = .ok (.iload_n 1, 1) := by decide +kernel
theorem dX0_stemsInQuarter_21 : decode cX0_stemsInQuarter 21 = .ok (.if_icmp .ne 6, 3) := by decide +kernel
theorem dX0_stemsInQuarter_24 : decode cX0_stemsInQuarter 24 = .ok (.iinc 2 1, 3) := by decide +kernel
theorem dX0_stemsInQuarter_27 : decode cX0_stemsInQuarter 27 = .ok (.iinc 3 1, 3) := by decide +kernel
theorem dX0_stemsInQuarter_30 : decode cX0_stemsInQuarter 30 = .ok (.goto (-26), 3) := by decide +kernel
theorem dX0_stemsInQuarter_33 : decode cX0_stemsInQuarter 33 = .ok (.iload_n 2, 1) := by decide +kernel
theorem dX0_stemsInQuarter_34 : decode cX0_stemsInQuarter 34 = .ok (.ireturn, 1) := by decide +kernel
theorem dX0_inAllBuckets_0 : decode cX0_inAllBuckets 0 = .ok (.iconst 0, 1) := by decide +kernel
theorem dX0_inAllBuckets_1 : decode cX0_inAllBuckets 1 = .ok (.istore_n 1, 1) := by decide +kernel
theorem dX0_inAllBuckets_2 : decode cX0_inAllBuckets 2 = .ok (.iconst 0, 1) := by decide +kernel
theorem dX0_inAllBuckets_3 : decode cX0_inAllBuckets 3 = .ok (.istore_n 2, 1) := by decide +kernel
theorem dX0_inAllBuckets_4 : decode cX0_inAllBuckets 4 = .ok (.iload_n 2, 1) := by decide +kernel
theorem dX0_inAllBuckets_5 : decode cX0_inAllBuckets 5 = .ok (.aload_n 0, 1) := by decide +kernel
theorem dX0_inAllBuckets_6 : decode cX0_inAllBuckets 6 = .ok (.getfield 21, 3) := by decide +kernel
theorem dX0_inAllBuckets_9 : decode cX0_inAllBuckets 9 = .ok (.if_icmp .ge 18, 3) := by decide +kernel
theorem dX0_inAllBuckets_12 : decode cX0_inAllBuckets 12 = .ok (.iload_n 1, 1) := by decide +kernel
theorem dX0_inAllBuckets_13 : decode cX0_inAllBuckets 13 = .ok (.aload_n 0, 1) := by decide +kernel
theorem dX0_inAllBuckets_14 : decode cX0_inAllBuckets 14 = .ok (.getfield 34, 3) := by decide +kernel
theorem dX0_inAllBuckets_17 : decode cX0_inAllBuckets 17 = .ok (.iload_n 2, 1) := by decide +kernel
theorem dX0_inAllBuckets_18 : decode cX0_inAllBuckets 18 = .ok (.iaload, 1) := by decide +kernel
theorem dX0_inAllBuckets_19 : decode cX0_inAllBuckets 19 = .ok (.iadd, 1) := by decide +kernel
theorem dX0_inAllBuckets_20 : decode cX0_inAllBuckets 20 = .ok (.istore_n 1, 1) := by decide +kernel
theorem dX0_inAllBuckets_21 : decode cX0_inAllBuckets 21 = .ok (.iinc 2 1, 3) := by decide +kernel
theorem dX0_inAllBuckets_24 : decode cX0_inAllBuckets 24 = .ok (.goto (-20), 3) := by decide +kernel
theorem dX0_inAllBuckets_27 : decode cX0_inAllBuckets 27 = .ok (.iload_n 1, 1) := by decide +kernel
theorem dX0_inAllBuckets_28 : decode cX0_inAllBuckets 28 = .ok (.ireturn, 1) := by decide +kernel
theorem dX0_become_0 : decode cX0_become 0 = .ok (.aload_n 0, 1) := by decide +kernel
theorem dX0_become_1 : decode cX0_become 1 = .ok (.aload_n 1, 1) := by decide +kernel
theorem dX0_become_2 : decode cX0_become 2 = .ok (.getfield 9, 3) := by decide +kernel
theorem dX0_become_5 : decode cX0_become 5 = .ok (.putfield 9, 3) := by decide +kernel
theorem dX0_become_8 : decode cX0_become 8 = .ok (.aload_n 0, 1) := by decide +kernel
theorem dX0_become_9 : decode cX0_become 9 = .ok (.aload_n 1, 1) := by decide +kernel
theorem dX0_become_10 : decode cX0_become 10 = .ok (.getfield 15, 3) := by decide +kernel
theorem dX0_become_13 : decode cX0_become 13 = .ok (.putfield 15, 3) := by decide +kernel
theorem dX0_become_16 : decode cX0_become 16 = .ok (.aload_n 0, 1) := by decide +kernel
theorem dX0_become_17 : decode cX0_become 17 = .ok (.aload_n 1, 1) := by decide +kernel
theorem dX0_become_18 : decode cX0_become 18 = .ok (.getfield 18, 3) := by decide +kernel
theorem dX0_become_21 : decode cX0_become 21 = .ok (.putfield 18, 3) := by decide +kernel
theorem dX0_become_24 : decode cX0_become 24 = .ok (.aload_n 0, 1) := by decide +kernel
theorem dX0_become_25 : decode cX0_become 25 = .ok (.aload_n 1, 1) := by decide +kernel
theorem dX0_become_26 : decode cX0_become 26 = .ok (.getfield 21, 3) := by decide +kernel
theorem dX0_become_29 : decode cX0_become 29 = .ok (.putfield 21, 3) := by decide +kernel
theorem dX0_become_32 : decode cX0_become 32 = .ok (.aload_n 0, 1) := by decide +kernel
theorem dX0_become_33 : decode cX0_become 33 = .ok (.aload_n 1, 1) := by decide +kernel
theorem dX0_become_34 : decode cX0_become 34 = .ok (.getfield 37, 3) := by decide +kernel
theorem dX0_become_37 : decode cX0_become 37 = .ok (.putfield 37, 3) := by decide +kernel
theorem dX0_become_40 : decode cX0_become 40 = .ok (.aload_n 1, 1) := by decide +kernel
theorem dX0_become_41 : decode cX0_become 41 = .ok (.getfield 24, 3) := by decide +kernel
theorem dX0_become_44 : decode cX0_become 44 = .ok (.iconst 0, 1) := by decide +kernel
theorem dX0_become_45 : decode cX0_become 45 = .ok (.aload_n 0, 1) := by decide +kernel
theorem dX0_become_46 : decode cX0_become 46 = .ok (.getfield 24, 3) := by decide +kernel
theorem dX0_become_49 : decode cX0_become 49 = .ok (.iconst 0, 1) := by decide +kernel
theorem dX0_become_50 : decode cX0_become 50 = .ok (.bipush 6, 2) := by decide +kernel
theorem dX0_become_52 : decode cX0_become 52 = .ok (.invokestatic 74, 3) := by decide +kernel
theorem dX0_become_55 : decode cX0_become 55 = .ok (.aload_n 1, 1) := by decide +kernel
theorem dX0_become_56 : decode cX0_become 56 = .ok (.getfield 28, 3) := by decide +kernel
theorem dX0_become_59 : decode cX0_become 59 = .ok (.iconst 0, 1) := by decide +kernel
theorem dX0_become_60 : decode cX0_become 60 = .ok (.aload_n 0, 1) := by decide +kernel
theorem dX0_become_61 : decode cX0_become 61 = .ok (.getfield 28, 3) := by decide +kernel
theorem dX0_become_64 : decode cX0_become 64 = .ok (.iconst 0, 1) := by decide +kernel
theorem dX0_become_65 : decode cX0_become 65 = .ok (.bipush 6, 2) := by decide +kernel
theorem dX0_become_67 : decode cX0_become 67 = .ok (.invokestatic 74, 3) := by decide +kernel
theorem dX0_become_70 : decode cX0_become 70 = .ok (.aload_n 1, 1) := by decide +kernel
theorem dX0_become_71 : decode cX0_become 71 = .ok (.getfield 31, 3) := by decide +kernel
theorem dX0_become_74 : decode cX0_become 74 = .ok (.iconst 0, 1) := by decide +kernel
theorem dX0_become_75 : decode cX0_become 75 = .ok (.aload_n 0, 1) := by decide +kernel
theorem dX0_become_76 : decode cX0_become 76 = .ok (.getfield 31, 3) := by decide +kernel
theorem dX0_become_79 : decode cX0_become 79 = .ok (.iconst 0, 1) := by decide +kernel
theorem dX0_become_80 : decode cX0_become 80 = .ok (.bipush 6, 2) := by decide +kernel
theorem dX0_become_82 : decode cX0_become 82 = .ok (.invokestatic 74, 3) := by decide +kernel
theorem dX0_become_85 : decode cX0_become 85 = .ok (.aload_n 1, 1) := by decide +kernel
theorem dX0_become_86 : decode cX0_become 86 = .ok (.getfield 34, 3) := by decide +kernel
theorem dX0_become_89 : decode cX0_become 89 = .ok (.iconst 0, 1) := by decide +kernel
theorem dX0_become_90 : decode cX0_become 90 = .ok (.aload_n 0, 1) := by decide +kernel
theorem dX0_become_91 : decode cX0_become 91 = .ok (.getfield 34, 3) := by decide +kernel
theorem dX0_become_94 : decode cX0_become 94 = .ok (.iconst 0, 1) := by decide +kernel
theorem dX0_become_95 : decode cX0_become 95 = .ok (.bipush 6, 2) := by decide +kernel
theorem dX0_become_97 : decode cX0_become 97 = .ok (.invokestatic 74, 3) := by decide +kernel
theorem dX0_become_100 : decode cX0_become 100 = .ok (.aload_n 1, 1) := by decide +kernel
theorem dX0_become_101 : decode cX0_become 101 = .ok (.getfield 40, 3) := by decide +kernel
theorem dX0_become_104 : decode cX0_become 104 = .ok (.iconst 0, 1) := by decide +kernel
theorem dX0_become_105 : decode cX0_become 105 = .ok (.aload_n 0, 1) := by decide +kernel
theorem dX0_become_106 : decode cX0_become 106 = .ok (.getfield 40, 3) := by decide +kernel
theorem dX0_become_109 : decode cX0_become 109 = .ok (.iconst 0, 1) := by decide +kernel
theorem dX0_become_110 : decode cX0_become 110 = .ok (.bipush 40, 2) := by decide +kernel
theorem dX0_become_112 : decode cX0_become 112 = .ok (.invokestatic 74, 3) := by decide +kernel
theorem dX0_become_115 : decode cX0_become 115 = .ok (.aload_n 1, 1) := by decide +kernel
theorem dX0_become_116 : decode cX0_become 116 = .ok (.getfield 43, 3) := by decide +kernel
theorem dX0_become_119 : decode cX0_become 119 = .ok (.iconst 0, 1) := by decide +kernel
theorem dX0_become_120 : decode cX0_become 120 = .ok (.aload_n 0, 1) := by decide +kernel
theorem dX0_become_121 : decode cX0_become 121 = .ok (.getfield 43, 3) := by decide +kernel
theorem dX0_become_124 : decode cX0_become 124 = .ok (.iconst 0, 1) := by decide +kernel
theorem dX0_become_125 : decode cX0_become 125 = .ok (.bipush 40, 2) := by decide +kernel
theorem dX0_become_127 : decode cX0_become 127 = .ok (.invokestatic 74, 3) := by decide +kernel
theorem dX0_become_130 : decode cX0_become 130 = .ok (.return_, 1) := by decide +kernel
theorem dX1_isKind_0 : decode cX1_isKind 0 = .ok (.iload_n 0, 1) := by decide +kernel
theorem dX1_isKind_1 : decode cX1_isKind 1 = .ok (.ifCond .lt 13, 3) := by decide +kernel
theorem dX1_isKind_4 : decode cX1_isKind 4 = .ok (.iload_n 0, 1) := by decide +kernel
theorem dX1_isKind_5 : decode cX1_isKind 5 = .ok (.bipush 6, 2) := by decide +kernel
theorem dX1_isKind_7 : decode cX1_isKind 7 = .ok (.if_icmp .ge 7, 3) := by decide +kernel
theorem dX1_isKind_10 : decode cX1_isKind 10 = .ok (.iconst 1, 1) := by decide +kernel
theorem dX1_isKind_11 : decode cX1_isKind 11 = .ok (.goto 4, 3) := by decide +kernel
theorem dX1_isKind_14 : decode cX1_isKind 14 = .ok (.iconst 0, 1) := by decide +kernel
theorem dX1_isKind_15 : decode cX1_isKind 15 = .ok (.ireturn, 1) := by decide +kernel
theorem dX1_isUnder_0 : decode cX1_isUnder 0 = .ok (.iload_n 0, 1) := by decide +kernel
theorem dX1_isUnder_1 : decode cX1_isUnder 1 = .ok (.istore_n 2, 1) := by decide +kernel
theorem dX1_isUnder_2 : decode cX1_isUnder 2 = .ok (.iconst 0, 1) := by decide +kernel
theorem dX1_isUnder_3 : decode cX1_isUnder 3 = .ok (.istore_n 3, 1) := by decide +kernel
theorem dX1_isUnder_4 : decode cX1_isUnder 4 = .ok (.iload_n 3, 1) := by decide +kernel
theorem dX1_isUnder_5 : decode cX1_isUnder 5 = .ok (.bipush 6, 2) := by decide +kernel
theorem dX1_isUnder_7 : decode cX1_isUnder 7 = .ok (.if_icmp .ge 29, 3) := by decide +kernel
theorem dX1_isUnder_10 : decode cX1_isUnder 10 = .ok (.iload_n 2, 1) := by decide +kernel
theorem dX1_isUnder_11 : decode cX1_isUnder 11 = .ok (.invokestatic 9, 3) := by decide +kernel
theorem dX1_isUnder_14 : decode cX1_isUnder 14 = .ok (.ifCond .eq 22, 3) := by decide +kernel
theorem dX1_isUnder_17 : decode cX1_isUnder 17 = .ok (.iload_n 2, 1) := by decide +kernel
theorem dX1_isUnder_18 : decode cX1_isUnder 18 = .ok (.iload_n 1, 1) := by decide +kernel
theorem dX1_isUnder_19 : decode cX1_isUnder 19 = .ok (.if_icmp .ne 5, 3) := by decide +kernel
theorem dX1_isUnder_22 : decode cX1_isUnder 22 = .ok (.iconst 1, 1) := by decide +kernel
theorem dX1_isUnder_23 : decode cX1_isUnder 23 = .ok (.ireturn, 1) := by decide +kernel
theorem dX1_isUnder_24 : decode cX1_isUnder 24 = .ok (.getstatic 15, 3) := by decide +kernel
theorem dX1_isUnder_27 : decode cX1_isUnder 27 = .ok (.iload_n 2, 1) := by decide +kernel
theorem dX1_isUnder_28 : decode cX1_isUnder 28 = .ok (.iaload, 1) := by decide +kernel
theorem dX1_isUnder_29 : decode cX1_isUnder 29 = .ok (.istore_n 2, 1) := by decide +kernel
theorem dX1_isUnder_30 : decode cX1_isUnder 30 = .ok (.iinc 3 1, 3) := by decide +kernel
theorem dX1_isUnder_33 : decode cX1_isUnder 33 = .ok (.goto (-29), 3) := by decide +kernel
theorem dX1_isUnder_36 : decode cX1_isUnder 36 = .ok (.iconst 0, 1) := by decide +kernel
theorem dX1_isUnder_37 : decode cX1_isUnder 37 = .ok (.ireturn, 1) := by decide +kernel
theorem dX1_thick_0 : decode cX1_thick 0 = .ok (.iload_n 0, 1) := by decide +kernel
theorem dX1_thick_1 : decode cX1_thick 1 = .ok (.tableswitch 53 1 5 #[35, 45, 39, 45, 47], 35) := by decide +kernel
theorem dX1_thick_36 : decode cX1_thick 36 = .ok (.iconst 3, 1) := by decide +kernel
theorem dX1_thick_37 : decode cX1_thick 37 = .ok (.iload_n 1, 1) := by decide +kernel
theorem dX1_thick_38 : decode cX1_thick 38 = .ok (.iadd, 1) := by decide +kernel
theorem dX1_thick_39 : decode cX1_thick 39 = .ok (.ireturn, 1) := by decide +kernel
theorem dX1_thick_40 : decode cX1_thick 40 = .ok (.iconst 3, 1) := by decide +kernel
theorem dX1_thick_41 : decode cX1_thick 41 = .ok (.iload_n 1, 1) := by decide +kernel
theorem dX1_thick_42 : decode cX1_thick 42 = .ok (.iadd, 1) := by decide +kernel
theorem dX1_thick_43 : decode cX1_thick 43 = .ok (.iconst 2, 1) := by decide +kernel
theorem dX1_thick_44 : decode cX1_thick 44 = .ok (.idiv, 1) := by decide +kernel
theorem dX1_thick_45 : decode cX1_thick 45 = .ok (.ireturn, 1) := by decide +kernel
theorem dX1_thick_46 : decode cX1_thick 46 = .ok (.iconst 1, 1) := by decide +kernel
theorem dX1_thick_47 : decode cX1_thick 47 = .ok (.ireturn, 1) := by decide +kernel
theorem dX1_thick_48 : decode cX1_thick 48 = .ok (.iconst 2, 1) := by decide +kernel
theorem dX1_thick_49 : decode cX1_thick 49 = .ok (.iload_n 1, 1) := by decide +kernel
theorem dX1_thick_50 : decode cX1_thick 50 = .ok (.iconst 2, 1) := by decide +kernel
theorem dX1_thick_51 : decode cX1_thick 51 = .ok (.idiv, 1) := by decide +kernel
theorem dX1_thick_52 : decode cX1_thick 52 = .ok (.iadd, 1) := by decide +kernel
theorem dX1_thick_53 : decode cX1_thick 53 = .ok (.ireturn, 1) := by decide +kernel
theorem dX1_thick_54 : decode cX1_thick 54 = .ok (.iconst 3, 1) := by decide +kernel
theorem dX1_thick_55 : decode cX1_thick 55 = .ok (.ireturn, 1) := by decide +kernel
theorem dX1_turns_0 : decode cX1_turns 0 = .ok (.iload_n 0, 1) := by decide +kernel
theorem dX1_turns_1 : decode cX1_turns 1 = .ok (.tableswitch 46 1 5 #[35, 46, 35, 39, 43], 35) := by decide +kernel
theorem dX1_turns_36 : decode cX1_turns 36 = .ok (.iload_n 1, 1) := by decide +kernel
theorem dX1_turns_37 : decode cX1_turns 37 = .ok (.iconst 1, 1) := by decide +kernel
theorem dX1_turns_38 : decode cX1_turns 38 = .ok (.iadd, 1) := by decide +kernel
theorem dX1_turns_39 : decode cX1_turns 39 = .ok (.ireturn, 1) := by decide +kernel
theorem dX1_turns_40 : decode cX1_turns 40 = .ok (.iconst 2, 1) := by decide +kernel
theorem dX1_turns_41 : decode cX1_turns 41 = .ok (.iload_n 1, 1) := by decide +kernel
theorem dX1_turns_42 : decode cX1_turns 42 = .ok (.imul, 1) := by decide +kernel
theorem dX1_turns_43 : decode cX1_turns 43 = .ok (.ireturn, 1) := by decide +kernel
theorem dX1_turns_44 : decode cX1_turns 44 = .ok (.iload_n 1, 1) := by decide +kernel
theorem dX1_turns_45 : decode cX1_turns 45 = .ok (.ineg, 1) := by decide +kernel
theorem dX1_turns_46 : decode cX1_turns 46 = .ok (.ireturn, 1) := by decide +kernel
theorem dX1_turns_47 : decode cX1_turns 47 = .ok (.iload_n 1, 1) := by decide +kernel
theorem dX1_turns_48 : decode cX1_turns 48 = .ok (.ireturn, 1) := by decide +kernel
theorem dX1_costs_0 : decode cX1_costs 0 = .ok (.iload_n 0, 1) := by decide +kernel
theorem dX1_costs_1 : decode cX1_costs 1 = .ok (.tableswitch 49 1 4 #[31, 45, 35, 45], 31) := by decide +kernel
theorem dX1_costs_32 : decode cX1_costs 32 = .ok (.iconst 2, 1) := by decide +kernel
theorem dX1_costs_33 : decode cX1_costs 33 = .ok (.iload_n 2, 1) := by decide +kernel
theorem dX1_costs_34 : decode cX1_costs 34 = .ok (.imul, 1) := by decide +kernel
theorem dX1_costs_35 : decode cX1_costs 35 = .ok (.ireturn, 1) := by decide +kernel
theorem dX1_costs_36 : decode cX1_costs 36 = .ok (.iconst 0, 1) := by decide +kernel
theorem dX1_costs_37 : decode cX1_costs 37 = .ok (.iconst 2, 1) := by decide +kernel
theorem dX1_costs_38 : decode cX1_costs 38 = .ok (.iload_n 2, 1) := by decide +kernel
theorem dX1_costs_39 : decode cX1_costs 39 = .ok (.imul, 1) := by decide +kernel
theorem dX1_costs_40 : decode cX1_costs 40 = .ok (.iload_n 1, 1) := by decide +kernel
theorem dX1_costs_41 : decode cX1_costs 41 = .ok (.isub, 1) := by decide +kernel
theorem dX1_costs_42 : decode cX1_costs 42 = .ok (.invokestatic 19, 3) := by decide +kernel
theorem dX1_costs_45 : decode cX1_costs 45 = .ok (.ireturn, 1) := by decide +kernel
theorem dX1_costs_46 : decode cX1_costs 46 = .ok (.iload_n 2, 1) := by decide +kernel
theorem dX1_costs_47 : decode cX1_costs 47 = .ok (.iconst 2, 1) := by decide +kernel
theorem dX1_costs_48 : decode cX1_costs 48 = .ok (.idiv, 1) := by decide +kernel
theorem dX1_costs_49 : decode cX1_costs 49 = .ok (.ireturn, 1) := by decide +kernel
theorem dX1_costs_50 : decode cX1_costs 50 = .ok (.iload_n 2, 1) := by decide +kernel
theorem dX1_costs_51 : decode cX1_costs 51 = .ok (.ireturn, 1) := by decide +kernel
theorem dX1_lasts_0 : decode cX1_lasts 0 = .ok (.iload_n 0, 1) := by decide +kernel
theorem dX1_lasts_1 : decode cX1_lasts 1 = .ok (.tableswitch 47 2 5 #[31, 35, 39, 45], 31) := by decide +kernel
theorem dX1_lasts_32 : decode cX1_lasts 32 = .ok (.iconst 2, 1) := by decide +kernel
theorem dX1_lasts_33 : decode cX1_lasts 33 = .ok (.iload_n 2, 1) := by decide +kernel
theorem dX1_lasts_34 : decode cX1_lasts 34 = .ok (.imul, 1) := by decide +kernel
theorem dX1_lasts_35 : decode cX1_lasts 35 = .ok (.ireturn, 1) := by decide +kernel
theorem dX1_lasts_36 : decode cX1_lasts 36 = .ok (.iload_n 2, 1) := by decide +kernel
theorem dX1_lasts_37 : decode cX1_lasts 37 = .ok (.iconst 1, 1) := by decide +kernel
theorem dX1_lasts_38 : decode cX1_lasts 38 = .ok (.iadd, 1) := by decide +kernel
theorem dX1_lasts_39 : decode cX1_lasts 39 = .ok (.ireturn, 1) := by decide +kernel
theorem dX1_lasts_40 : decode cX1_lasts 40 = .ok (.iconst 2, 1) := by decide +kernel
theorem dX1_lasts_41 : decode cX1_lasts 41 = .ok (.iload_n 2, 1) := by decide +kernel
theorem dX1_lasts_42 : decode cX1_lasts 42 = .ok (.imul, 1) := by decide +kernel
theorem dX1_lasts_43 : decode cX1_lasts 43 = .ok (.iload_n 1, 1) := by decide +kernel
theorem dX1_lasts_44 : decode cX1_lasts 44 = .ok (.iadd, 1) := by decide +kernel
theorem dX1_lasts_45 : decode cX1_lasts 45 = .ok (.ireturn, 1) := by decide +kernel
theorem dX1_lasts_46 : decode cX1_lasts 46 = .ok (.iconst 1, 1) := by decide +kernel
theorem dX1_lasts_47 : decode cX1_lasts 47 = .ok (.ireturn, 1) := by decide +kernel
theorem dX1_lasts_48 : decode cX1_lasts 48 = .ok (.iload_n 2, 1) := by decide +kernel
theorem dX1_lasts_49 : decode cX1_lasts 49 = .ok (.ireturn, 1) := by decide +kernel
theorem dX2_init_0 : decode cX2_init 0 = .ok (.aload_n 0, 1) := by decide +kernel
theorem dX2_init_1 : decode cX2_init 1 = .ok (.invokespecial 3, 3) := by decide +kernel
theorem dX2_init_4 : decode cX2_init 4 = .ok (.aload_n 0, 1) := by decide +kernel
theorem dX2_init_5 : decode cX2_init 5 = .ok (.iconst 0, 1) := by decide +kernel
theorem dX2_init_6 : decode cX2_init 6 = .ok (.putfield 9, 3) := by decide +kernel
theorem dX2_init_9 : decode cX2_init 9 = .ok (.aload_n 0, 1) := by decide +kernel
theorem dX2_init_10 : decode cX2_init 10 = .ok (.iconst 0, 1) := by decide +kernel
theorem dX2_init_11 : decode cX2_init 11 = .ok (.putfield 15, 3) := by decide +kernel
theorem dX2_init_14 : decode cX2_init 14 = .ok (.aload_n 0, 1) := by decide +kernel
theorem dX2_init_15 : decode cX2_init 15 = .ok (.bipush 6, 2) := by decide +kernel
theorem dX2_init_17 : decode cX2_init 17 = .ok (.newarray .int, 2) := by decide +kernel
theorem dX2_init_19 : decode cX2_init 19 = .ok (.putfield 20, 3) := by decide +kernel
theorem dX2_init_22 : decode cX2_init 22 = .ok (.aload_n 0, 1) := by decide +kernel
theorem dX2_init_23 : decode cX2_init 23 = .ok (.aload_n 1, 1) := by decide +kernel
theorem dX2_init_24 : decode cX2_init 24 = .ok (.putfield 24, 3) := by decide +kernel
theorem dX2_init_27 : decode cX2_init 27 = .ok (.return_, 1) := by decide +kernel
theorem dX2_asNow_0 : decode cX2_asNow 0 = .ok (.aload_n 0, 1) := by decide +kernel
theorem dX2_asNow_1 : decode cX2_asNow 1 = .ok (.aload_n 1, 1) := by decide +kernel
theorem dX2_asNow_2 : decode cX2_asNow 2 = .ok (.iload_n 2, 1) := by decide +kernel
theorem dX2_asNow_3 : decode cX2_asNow 3 = .ok (.invokevirtual 28, 3) := by decide +kernel
theorem dX2_asNow_6 : decode cX2_asNow 6 = .ok (.aload_n 0, 1) := by decide +kernel
theorem dX2_asNow_7 : decode cX2_asNow 7 = .ok (.getfield 20, 3) := by decide +kernel
theorem dX2_asNow_10 : decode cX2_asNow 10 = .ok (.iconst 0, 1) := by decide +kernel
theorem dX2_asNow_11 : decode cX2_asNow 11 = .ok (.aload_n 1, 1) := by decide +kernel
theorem dX2_asNow_12 : decode cX2_asNow 12 = .ok (.getfield 32, 3) := by decide +kernel
theorem dX2_asNow_15 : decode cX2_asNow 15 = .ok (.iastore, 1) := by decide +kernel
theorem dX2_asNow_16 : decode cX2_asNow 16 = .ok (.aload_n 0, 1) := by decide +kernel
theorem dX2_asNow_17 : decode cX2_asNow 17 = .ok (.getfield 20, 3) := by decide +kernel
theorem dX2_asNow_20 : decode cX2_asNow 20 = .ok (.iconst 3, 1) := by decide +kernel
theorem dX2_asNow_21 : decode cX2_asNow 21 = .ok (.aload_n 1, 1) := by decide +kernel
theorem dX2_asNow_22 : decode cX2_asNow 22 = .ok (.invokevirtual 37, 3) := by decide +kernel
theorem dX2_asNow_25 : decode cX2_asNow 25 = .ok (.iastore, 1) := by decide +kernel
theorem dX2_asNow_26 : decode cX2_asNow 26 = .ok (.aload_n 0, 1) := by decide +kernel
theorem dX2_asNow_27 : decode cX2_asNow 27 = .ok (.getfield 20, 3) := by decide +kernel
theorem dX2_asNow_30 : decode cX2_asNow 30 = .ok (.iconst 5, 1) := by decide +kernel
theorem dX2_asNow_31 : decode cX2_asNow 31 = .ok (.aload_n 1, 1) := by decide +kernel
theorem dX2_asNow_32 : decode cX2_asNow 32 = .ok (.invokevirtual 41, 3) := by decide +kernel
theorem dX2_asNow_35 : decode cX2_asNow 35 = .ok (.iastore, 1) := by decide +kernel
theorem dX2_asNow_36 : decode cX2_asNow 36 = .ok (.return_, 1) := by decide +kernel
theorem dX2_inEmptyHand_0 : decode cX2_inEmptyHand 0 = .ok (.aload_n 1, 1) := by decide +kernel
theorem dX2_inEmptyHand_1 : decode cX2_inEmptyHand 1 = .ok (.iload_n 2, 1) := by decide +kernel
theorem dX2_inEmptyHand_2 : decode cX2_inEmptyHand 2 = .ok (.invokevirtual 44, 3) := by decide +kernel
theorem dX2_inEmptyHand_5 : decode cX2_inEmptyHand 5 = .ok (.ifCond .ne 4, 3) := by decide +kernel
theorem dX2_inEmptyHand_8 : decode cX2_inEmptyHand 8 = .ok (.return_, 1) := by decide +kernel
theorem dX2_inEmptyHand_9 : decode cX2_inEmptyHand 9 = .ok (.aload_n 0, 1) := by decide +kernel
theorem dX2_inEmptyHand_10 : decode cX2_inEmptyHand 10 = .ok (.aload_n 1, 1) := by decide +kernel
theorem dX2_inEmptyHand_11 : decode cX2_inEmptyHand 11 = .ok (.getfield 48, 3) := by decide +kernel
theorem dX2_inEmptyHand_14 : decode cX2_inEmptyHand 14 = .ok (.putfield 9, 3) := by decide +kernel
theorem dX2_inEmptyHand_17 : decode cX2_inEmptyHand 17 = .ok (.aload_n 0, 1) := by decide +kernel
theorem dX2_inEmptyHand_18 : decode cX2_inEmptyHand 18 = .ok (.aload_n 1, 1) := by decide +kernel
theorem dX2_inEmptyHand_19 : decode cX2_inEmptyHand 19 = .ok (.getfield 49, 3) := by decide +kernel
theorem dX2_inEmptyHand_22 : decode cX2_inEmptyHand 22 = .ok (.iload_n 2, 1) := by decide +kernel
theorem dX2_inEmptyHand_23 : decode cX2_inEmptyHand 23 = .ok (.iaload, 1) := by decide +kernel
theorem dX2_inEmptyHand_24 : decode cX2_inEmptyHand 24 = .ok (.putfield 15, 3) := by decide +kernel
theorem dX2_inEmptyHand_27 : decode cX2_inEmptyHand 27 = .ok (.aload_n 0, 1) := by decide +kernel
theorem dX2_inEmptyHand_28 : decode cX2_inEmptyHand 28 = .ok (.getfield 20, 3) := by decide +kernel
theorem dX2_inEmptyHand_31 : decode cX2_inEmptyHand 31 = .ok (.iconst 0, 1) := by decide +kernel
theorem dX2_inEmptyHand_32 : decode cX2_inEmptyHand 32 = .ok (.iconst 0, 1) := by decide +kernel
theorem dX2_inEmptyHand_33 : decode cX2_inEmptyHand 33 = .ok (.iastore, 1) := by decide +kernel
theorem dX2_inEmptyHand_34 : decode cX2_inEmptyHand 34 = .ok (.aload_n 0, 1) := by decide +kernel
theorem dX2_inEmptyHand_35 : decode cX2_inEmptyHand 35 = .ok (.getfield 20, 3) := by decide +kernel
theorem dX2_inEmptyHand_38 : decode cX2_inEmptyHand 38 = .ok (.iconst 1, 1) := by decide +kernel
theorem dX2_inEmptyHand_39 : decode cX2_inEmptyHand 39 = .ok (.aload_n 1, 1) := by decide +kernel
theorem dX2_inEmptyHand_40 : decode cX2_inEmptyHand 40 = .ok (.getfield 52, 3) := by decide +kernel
theorem dX2_inEmptyHand_43 : decode cX2_inEmptyHand 43 = .ok (.iload_n 2, 1) := by decide +kernel
theorem dX2_inEmptyHand_44 : decode cX2_inEmptyHand 44 = .ok (.iaload, 1) := by decide +kernel
theorem dX2_inEmptyHand_45 : decode cX2_inEmptyHand 45 = .ok (.iastore, 1) := by decide +kernel
theorem dX2_inEmptyHand_46 : decode cX2_inEmptyHand 46 = .ok (.aload_n 0, 1) := by decide +kernel
theorem dX2_inEmptyHand_47 : decode cX2_inEmptyHand 47 = .ok (.getfield 20, 3) := by decide +kernel
theorem dX2_inEmptyHand_50 : decode cX2_inEmptyHand 50 = .ok (.iconst 2, 1) := by decide +kernel
theorem dX2_inEmptyHand_51 : decode cX2_inEmptyHand 51 = .ok (.aload_n 1, 1) := by decide +kernel
theorem dX2_inEmptyHand_52 : decode cX2_inEmptyHand 52 = .ok (.getfield 55, 3) := by decide +kernel
theorem dX2_inEmptyHand_55 : decode cX2_inEmptyHand 55 = .ok (.iload_n 2, 1) := by decide +kernel
theorem dX2_inEmptyHand_56 : decode cX2_inEmptyHand 56 = .ok (.iaload, 1) := by decide +kernel
theorem dX2_inEmptyHand_57 : decode cX2_inEmptyHand 57 = .ok (.iastore, 1) := by decide +kernel
theorem dX2_inEmptyHand_58 : decode cX2_inEmptyHand 58 = .ok (.aload_n 0, 1) := by decide +kernel
theorem dX2_inEmptyHand_59 : decode cX2_inEmptyHand 59 = .ok (.getfield 20, 3) := by decide +kernel
theorem dX2_inEmptyHand_62 : decode cX2_inEmptyHand 62 = .ok (.iconst 3, 1) := by decide +kernel
theorem dX2_inEmptyHand_63 : decode cX2_inEmptyHand 63 = .ok (.aload_n 1, 1) := by decide +kernel
theorem dX2_inEmptyHand_64 : decode cX2_inEmptyHand 64 = .ok (.getfield 58, 3) := by decide +kernel
theorem dX2_inEmptyHand_67 : decode cX2_inEmptyHand 67 = .ok (.iastore, 1) := by decide +kernel
theorem dX2_inEmptyHand_68 : decode cX2_inEmptyHand 68 = .ok (.aload_n 0, 1) := by decide +kernel
theorem dX2_inEmptyHand_69 : decode cX2_inEmptyHand 69 = .ok (.getfield 20, 3) := by decide +kernel
theorem dX2_inEmptyHand_72 : decode cX2_inEmptyHand 72 = .ok (.iconst 4, 1) := by decide +kernel
theorem dX2_inEmptyHand_73 : decode cX2_inEmptyHand 73 = .ok (.aload_n 1, 1) := by decide +kernel
theorem dX2_inEmptyHand_74 : decode cX2_inEmptyHand 74 = .ok (.getfield 61, 3) := by decide +kernel
theorem dX2_inEmptyHand_77 : decode cX2_inEmptyHand 77 = .ok (.iload_n 2, 1) := by decide +kernel
theorem dX2_inEmptyHand_78 : decode cX2_inEmptyHand 78 = .ok (.iaload, 1) := by decide +kernel
theorem dX2_inEmptyHand_79 : decode cX2_inEmptyHand 79 = .ok (.iastore, 1) := by decide +kernel
theorem dX2_inEmptyHand_80 : decode cX2_inEmptyHand 80 = .ok (.aload_n 0, 1) := by decide +kernel
theorem dX2_inEmptyHand_81 : decode cX2_inEmptyHand 81 = .ok (.getfield 20, 3) := by decide +kernel
theorem dX2_inEmptyHand_84 : decode cX2_inEmptyHand 84 = .ok (.iconst 5, 1) := by decide +kernel
theorem dX2_inEmptyHand_85 : decode cX2_inEmptyHand 85 = .ok (.aload_n 1, 1) := by decide +kernel
theorem dX2_inEmptyHand_86 : decode cX2_inEmptyHand 86 = .ok (.getfield 64, 3) := by decide +kernel
theorem dX2_inEmptyHand_89 : decode cX2_inEmptyHand 89 = .ok (.iastore, 1) := by decide +kernel
theorem dX2_inEmptyHand_90 : decode cX2_inEmptyHand 90 = .ok (.return_, 1) := by decide +kernel
theorem dX2_asThought_0 : decode cX2_asThought 0 = .ok (.aload_n 0, 1) := by decide +kernel
theorem dX2_asThought_1 : decode cX2_asThought 1 = .ok (.getfield 20, 3) := by decide +kernel
theorem dX2_asThought_4 : decode cX2_asThought 4 = .ok (.iconst 0, 1) := by decide +kernel
theorem dX2_asThought_5 : decode cX2_asThought 5 = .ok (.iload_n 1, 1) := by decide +kernel
theorem dX2_asThought_6 : decode cX2_asThought 6 = .ok (.iastore, 1) := by decide +kernel
theorem dX2_asThought_7 : decode cX2_asThought 7 = .ok (.aload_n 0, 1) := by decide +kernel
theorem dX2_asThought_8 : decode cX2_asThought 8 = .ok (.getfield 20, 3) := by decide +kernel
theorem dX2_asThought_11 : decode cX2_asThought 11 = .ok (.iconst 3, 1) := by decide +kernel
theorem dX2_asThought_12 : decode cX2_asThought 12 = .ok (.iload_n 2, 1) := by decide +kernel
theorem dX2_asThought_13 : decode cX2_asThought 13 = .ok (.iastore, 1) := by decide +kernel
theorem dX2_asThought_14 : decode cX2_asThought 14 = .ok (.aload_n 0, 1) := by decide +kernel
theorem dX2_asThought_15 : decode cX2_asThought 15 = .ok (.getfield 20, 3) := by decide +kernel
theorem dX2_asThought_18 : decode cX2_asThought 18 = .ok (.iconst 4, 1) := by decide +kernel
theorem dX2_asThought_19 : decode cX2_asThought 19 = .ok (.iload_n 3, 1) := by decide +kernel
theorem dX2_asThought_20 : decode cX2_asThought 20 = .ok (.iastore, 1) := by decide +kernel
theorem dX2_asThought_21 : decode cX2_asThought 21 = .ok (.aload_n 0, 1) := by decide +kernel
theorem dX2_asThought_22 : decode cX2_asThought 22 = .ok (.getfield 20, 3) := by decide +kernel
theorem dX2_asThought_25 : decode cX2_asThought 25 = .ok (.iconst 5, 1) := by decide +kernel
theorem dX2_asThought_26 : decode cX2_asThought 26 = .ok (.iload 4, 2) := by decide +kernel
theorem dX2_asThought_28 : decode cX2_asThought 28 = .ok (.iastore, 1) := by decide +kernel
theorem dX2_asThought_29 : decode cX2_asThought 29 = .ok (.return_, 1) := by decide +kernel
theorem dX2_suppose_0 : decode cX2_suppose 0 = .ok (.iload_n 1, 1) := by decide +kernel
theorem dX2_suppose_1 : decode cX2_suppose 1 = .ok (.tableswitch 81 1 5 #[35, 43, 53, 63, 73], 35) := by decide +kernel
theorem dX2_suppose_36 : decode cX2_suppose 36 = .ok (.aload_n 0, 1) := by decide +kernel
theorem dX2_suppose_37 : decode cX2_suppose 37 = .ok (.iload_n 2, 1) := by decide +kernel
theorem dX2_suppose_38 : decode cX2_suppose 38 = .ok (.putfield 15, 3) := by decide +kernel
theorem dX2_suppose_41 : decode cX2_suppose 41 = .ok (.goto 41, 3) := by decide +kernel
theorem dX2_suppose_44 : decode cX2_suppose 44 = .ok (.aload_n 0, 1) := by decide +kernel
theorem dX2_suppose_45 : decode cX2_suppose 45 = .ok (.getfield 20, 3) := by decide +kernel
theorem dX2_suppose_48 : decode cX2_suppose 48 = .ok (.iconst 2, 1) := by decide +kernel
theorem dX2_suppose_49 : decode cX2_suppose 49 = .ok (.iload_n 2, 1) := by decide +kernel
theorem dX2_suppose_50 : decode cX2_suppose 50 = .ok (.iastore, 1) := by decide +kernel
theorem dX2_suppose_51 : decode cX2_suppose 51 = .ok (.goto 31, 3) := by decide +kernel
theorem dX2_suppose_54 : decode cX2_suppose 54 = .ok (.aload_n 0, 1) := by decide +kernel
theorem dX2_suppose_55 : decode cX2_suppose 55 = .ok (.getfield 20, 3) := by decide +kernel
theorem dX2_suppose_58 : decode cX2_suppose 58 = .ok (.iconst 1, 1) := by decide +kernel
theorem dX2_suppose_59 : decode cX2_suppose 59 = .ok (.iload_n 2, 1) := by decide +kernel
theorem dX2_suppose_60 : decode cX2_suppose 60 = .ok (.iastore, 1) := by decide +kernel
theorem dX2_suppose_61 : decode cX2_suppose 61 = .ok (.goto 21, 3) := by decide +kernel
theorem dX2_suppose_64 : decode cX2_suppose 64 = .ok (.aload_n 0, 1) := by decide +kernel
theorem dX2_suppose_65 : decode cX2_suppose 65 = .ok (.getfield 20, 3) := by decide +kernel
theorem dX2_suppose_68 : decode cX2_suppose 68 = .ok (.iconst 3, 1) := by decide +kernel
theorem dX2_suppose_69 : decode cX2_suppose 69 = .ok (.iload_n 2, 1) := by decide +kernel
theorem dX2_suppose_70 : decode cX2_suppose 70 = .ok (.iastore, 1) := by decide +kernel
theorem dX2_suppose_71 : decode cX2_suppose 71 = .ok (.goto 11, 3) := by decide +kernel
theorem dX2_suppose_74 : decode cX2_suppose 74 = .ok (.aload_n 0, 1) := by decide +kernel
theorem dX2_suppose_75 : decode cX2_suppose 75 = .ok (.iload_n 2, 1) := by decide +kernel
theorem dX2_suppose_76 : decode cX2_suppose 76 = .ok (.putfield 9, 3) := by decide +kernel
theorem dX2_suppose_79 : decode cX2_suppose 79 = .ok (.goto 3, 3) := by decide +kernel
theorem dX2_suppose_82 : decode cX2_suppose 82 = .ok (.return_, 1) := by decide +kernel
theorem dX2_layOne_0 : decode cX2_layOne 0 = .ok (.aload_n 0, 1) := by decide +kernel
theorem dX2_layOne_1 : decode cX2_layOne 1 = .ok (.getfield 20, 3) := by decide +kernel
theorem dX2_layOne_4 : decode cX2_layOne 4 = .ok (.iconst 3, 1) := by decide +kernel
theorem dX2_layOne_5 : decode cX2_layOne 5 = .ok (.aload_n 0, 1) := by decide +kernel
theorem dX2_layOne_6 : decode cX2_layOne 6 = .ok (.getfield 20, 3) := by decide +kernel
theorem dX2_layOne_9 : decode cX2_layOne 9 = .ok (.iconst 3, 1) := by decide +kernel
theorem dX2_layOne_10 : decode cX2_layOne 10 = .ok (.iaload, 1) := by decide +kernel
theorem dX2_layOne_11 : decode cX2_layOne 11 = .ok (.aload_n 0, 1) := by decide +kernel
theorem dX2_layOne_12 : decode cX2_layOne 12 = .ok (.invokevirtual 67, 3) := by decide +kernel
theorem dX2_layOne_15 : decode cX2_layOne 15 = .ok (.invokestatic 70, 3) := by decide +kernel
theorem dX2_layOne_18 : decode cX2_layOne 18 = .ok (.iastore, 1) := by decide +kernel
theorem dX2_layOne_19 : decode cX2_layOne 19 = .ok (.aload_n 0, 1) := by decide +kernel
theorem dX2_layOne_20 : decode cX2_layOne 20 = .ok (.getfield 20, 3) := by decide +kernel
theorem dX2_layOne_23 : decode cX2_layOne 23 = .ok (.iconst 0, 1) := by decide +kernel
theorem dX2_layOne_24 : decode cX2_layOne 24 = .ok (.dup2, 1) := by decide +kernel
theorem dX2_layOne_25 : decode cX2_layOne 25 = .ok (.iaload, 1) := by decide +kernel
theorem dX2_layOne_26 : decode cX2_layOne 26 = .ok (.iconst 1, 1) := by decide +kernel
theorem dX2_layOne_27 : decode cX2_layOne 27 = .ok (.iadd, 1) := by decide +kernel
theorem dX2_layOne_28 : decode cX2_layOne 28 = .ok (.iastore, 1) := by decide +kernel
theorem dX2_layOne_29 : decode cX2_layOne 29 = .ok (.aload_n 0, 1) := by decide +kernel
theorem dX2_layOne_30 : decode cX2_layOne 30 = .ok (.getfield 20, 3) := by decide +kernel
theorem dX2_layOne_33 : decode cX2_layOne 33 = .ok (.iconst 4, 1) := by decide +kernel
theorem dX2_layOne_34 : decode cX2_layOne 34 = .ok (.dup2, 1) := by decide +kernel
theorem dX2_layOne_35 : decode cX2_layOne 35 = .ok (.iaload, 1) := by decide +kernel
theorem dX2_layOne_36 : decode cX2_layOne 36 = .ok (.iconst 1, 1) := by decide +kernel
theorem dX2_layOne_37 : decode cX2_layOne 37 = .ok (.isub, 1) := by decide +kernel
theorem dX2_layOne_38 : decode cX2_layOne 38 = .ok (.iastore, 1) := by decide +kernel
theorem dX2_layOne_39 : decode cX2_layOne 39 = .ok (.aload_n 0, 1) := by decide +kernel
theorem dX2_layOne_40 : decode cX2_layOne 40 = .ok (.getfield 20, 3) := by decide +kernel
theorem dX2_layOne_43 : decode cX2_layOne 43 = .ok (.iconst 5, 1) := by decide +kernel
theorem dX2_layOne_44 : decode cX2_layOne 44 = .ok (.dup2, 1) := by decide +kernel
theorem dX2_layOne_45 : decode cX2_layOne 45 = .ok (.iaload, 1) := by decide +kernel
theorem dX2_layOne_46 : decode cX2_layOne 46 = .ok (.aload_n 0, 1) := by decide +kernel
theorem dX2_layOne_47 : decode cX2_layOne 47 = .ok (.invokevirtual 74, 3) := by decide +kernel
theorem dX2_layOne_50 : decode cX2_layOne 50 = .ok (.isub, 1) := by decide +kernel
theorem dX2_layOne_51 : decode cX2_layOne 51 = .ok (.iastore, 1) := by decide +kernel
theorem dX2_layOne_52 : decode cX2_layOne 52 = .ok (.aload_n 0, 1) := by decide +kernel
theorem dX2_layOne_53 : decode cX2_layOne 53 = .ok (.getfield 20, 3) := by decide +kernel
theorem dX2_layOne_56 : decode cX2_layOne 56 = .ok (.iconst 3, 1) := by decide +kernel
theorem dX2_layOne_57 : decode cX2_layOne 57 = .ok (.iaload, 1) := by decide +kernel
theorem dX2_layOne_58 : decode cX2_layOne 58 = .ok (.ireturn, 1) := by decide +kernel
theorem dX2_turned_0 : decode cX2_turned 0 = .ok (.iload_n 0, 1) := by decide +kernel
theorem dX2_turned_1 : decode cX2_turned 1 = .ok (.iload_n 1, 1) := by decide +kernel
theorem dX2_turned_2 : decode cX2_turned 2 = .ok (.iadd, 1) := by decide +kernel
theorem dX2_turned_3 : decode cX2_turned 3 = .ok (.bipush 16, 2) := by decide +kernel
theorem dX2_turned_5 : decode cX2_turned 5 = .ok (.invokestatic 77, 3) := by decide +kernel
theorem dX2_turned_8 : decode cX2_turned 8 = .ok (.ireturn, 1) := by decide +kernel
theorem dX2_thick_0 : decode cX2_thick 0 = .ok (.aload_n 0, 1) := by decide +kernel
theorem dX2_thick_1 : decode cX2_thick 1 = .ok (.getfield 15, 3) := by decide +kernel
theorem dX2_thick_4 : decode cX2_thick 4 = .ok (.aload_n 0, 1) := by decide +kernel
theorem dX2_thick_5 : decode cX2_thick 5 = .ok (.getfield 20, 3) := by decide +kernel
theorem dX2_thick_8 : decode cX2_thick 8 = .ok (.iconst 2, 1) := by decide +kernel
theorem dX2_thick_9 : decode cX2_thick 9 = .ok (.iaload, 1) := by decide +kernel
theorem dX2_thick_10 : decode cX2_thick 10 = .ok (.invokestatic 82, 3) := by decide +kernel
theorem dX2_thick_13 : decode cX2_thick 13 = .ok (.ireturn, 1) := by decide +kernel
theorem dX2_turns_0 : decode cX2_turns 0 = .ok (.aload_n 0, 1) := by decide +kernel
theorem dX2_turns_1 : decode cX2_turns 1 = .ok (.getfield 15, 3) := by decide +kernel
theorem dX2_turns_4 : decode cX2_turns 4 = .ok (.bipush (-16), 2) := by decide +kernel
theorem dX2_turns_6 : decode cX2_turns 6 = .ok (.bipush 16, 2) := by decide +kernel
theorem dX2_turns_8 : decode cX2_turns 8 = .ok (.aload_n 0, 1) := by decide +kernel
theorem dX2_turns_9 : decode cX2_turns 9 = .ok (.getfield 24, 3) := by decide +kernel
theorem dX2_turns_12 : decode cX2_turns 12 = .ok (.aload_n 0, 1) := by decide +kernel
theorem dX2_turns_13 : decode cX2_turns 13 = .ok (.getfield 9, 3) := by decide +kernel
theorem dX2_turns_16 : decode cX2_turns 16 = .ok (.iconst 0, 1) := by decide +kernel
theorem dX2_turns_17 : decode cX2_turns 17 = .ok (.aload_n 0, 1) := by decide +kernel
theorem dX2_turns_18 : decode cX2_turns 18 = .ok (.getfield 20, 3) := by decide +kernel
theorem dX2_turns_21 : decode cX2_turns 21 = .ok (.invokevirtual 86, 3) := by decide +kernel
theorem dX2_turns_24 : decode cX2_turns 24 = .ok (.invokestatic 90, 3) := by decide +kernel
theorem dX2_turns_27 : decode cX2_turns 27 = .ok (.invokestatic 94, 3) := by decide +kernel
theorem dX2_turns_30 : decode cX2_turns 30 = .ok (.ireturn, 1) := by decide +kernel
theorem dX2_costs_0 : decode cX2_costs 0 = .ok (.iconst 0, 1) := by decide +kernel
theorem dX2_costs_1 : decode cX2_costs 1 = .ok (.sipush 999, 3) := by decide +kernel
theorem dX2_costs_4 : decode cX2_costs 4 = .ok (.aload_n 0, 1) := by decide +kernel
theorem dX2_costs_5 : decode cX2_costs 5 = .ok (.getfield 24, 3) := by decide +kernel
theorem dX2_costs_8 : decode cX2_costs 8 = .ok (.aload_n 0, 1) := by decide +kernel
theorem dX2_costs_9 : decode cX2_costs 9 = .ok (.getfield 9, 3) := by decide +kernel
theorem dX2_costs_12 : decode cX2_costs 12 = .ok (.iconst 1, 1) := by decide +kernel
theorem dX2_costs_13 : decode cX2_costs 13 = .ok (.aload_n 0, 1) := by decide +kernel
theorem dX2_costs_14 : decode cX2_costs 14 = .ok (.getfield 20, 3) := by decide +kernel
theorem dX2_costs_17 : decode cX2_costs 17 = .ok (.invokevirtual 86, 3) := by decide +kernel
theorem dX2_costs_20 : decode cX2_costs 20 = .ok (.invokestatic 90, 3) := by decide +kernel
theorem dX2_costs_23 : decode cX2_costs 23 = .ok (.istore_n 1, 1) := by decide +kernel
theorem dX2_costs_24 : decode cX2_costs 24 = .ok (.aload_n 0, 1) := by decide +kernel
theorem dX2_costs_25 : decode cX2_costs 25 = .ok (.getfield 15, 3) := by decide +kernel
theorem dX2_costs_28 : decode cX2_costs 28 = .ok (.aload_n 0, 1) := by decide +kernel
theorem dX2_costs_29 : decode cX2_costs 29 = .ok (.getfield 20, 3) := by decide +kernel
theorem dX2_costs_32 : decode cX2_costs 32 = .ok (.iconst 2, 1) := by decide +kernel
theorem dX2_costs_33 : decode cX2_costs 33 = .ok (.iaload, 1) := by decide +kernel
theorem dX2_costs_34 : decode cX2_costs 34 = .ok (.iload_n 1, 1) := by decide +kernel
theorem dX2_costs_35 : decode cX2_costs 35 = .ok (.invokestatic 96, 3) := by decide +kernel
theorem dX2_costs_38 : decode cX2_costs 38 = .ok (.ireturn, 1) := by decide +kernel
theorem dX2_lasts_0 : decode cX2_lasts 0 = .ok (.iconst 0, 1) := by decide +kernel
theorem dX2_lasts_1 : decode cX2_lasts 1 = .ok (.bipush 30, 2) := by decide +kernel
theorem dX2_lasts_3 : decode cX2_lasts 3 = .ok (.aload_n 0, 1) := by decide +kernel
theorem dX2_lasts_4 : decode cX2_lasts 4 = .ok (.getfield 24, 3) := by decide +kernel
theorem dX2_lasts_7 : decode cX2_lasts 7 = .ok (.aload_n 0, 1) := by decide +kernel
theorem dX2_lasts_8 : decode cX2_lasts 8 = .ok (.getfield 9, 3) := by decide +kernel
theorem dX2_lasts_11 : decode cX2_lasts 11 = .ok (.iconst 2, 1) := by decide +kernel
theorem dX2_lasts_12 : decode cX2_lasts 12 = .ok (.aload_n 0, 1) := by decide +kernel
theorem dX2_lasts_13 : decode cX2_lasts 13 = .ok (.getfield 20, 3) := by decide +kernel
theorem dX2_lasts_16 : decode cX2_lasts 16 = .ok (.invokevirtual 86, 3) := by decide +kernel
theorem dX2_lasts_19 : decode cX2_lasts 19 = .ok (.invokestatic 90, 3) := by decide +kernel
theorem dX2_lasts_22 : decode cX2_lasts 22 = .ok (.istore_n 1, 1) := by decide +kernel
theorem dX2_lasts_23 : decode cX2_lasts 23 = .ok (.aload_n 0, 1) := by decide +kernel
theorem dX2_lasts_24 : decode cX2_lasts 24 = .ok (.getfield 15, 3) := by decide +kernel
theorem dX2_lasts_27 : decode cX2_lasts 27 = .ok (.aload_n 0, 1) := by decide +kernel
theorem dX2_lasts_28 : decode cX2_lasts 28 = .ok (.getfield 20, 3) := by decide +kernel
theorem dX2_lasts_31 : decode cX2_lasts 31 = .ok (.iconst 2, 1) := by decide +kernel
theorem dX2_lasts_32 : decode cX2_lasts 32 = .ok (.iaload, 1) := by decide +kernel
theorem dX2_lasts_33 : decode cX2_lasts 33 = .ok (.iload_n 1, 1) := by decide +kernel
theorem dX2_lasts_34 : decode cX2_lasts 34 = .ok (.invokestatic 99, 3) := by decide +kernel
theorem dX2_lasts_37 : decode cX2_lasts 37 = .ok (.ireturn, 1) := by decide +kernel
theorem dX2_within_0 : decode cX2_within 0 = .ok (.iload_n 0, 1) := by decide +kernel
theorem dX2_within_1 : decode cX2_within 1 = .ok (.iload_n 1, 1) := by decide +kernel
theorem dX2_within_2 : decode cX2_within 2 = .ok (.iload_n 2, 1) := by decide +kernel
theorem dX2_within_3 : decode cX2_within 3 = .ok (.invokestatic 102, 3) := by decide +kernel
theorem dX2_within_6 : decode cX2_within 6 = .ok (.invokestatic 105, 3) := by decide +kernel
theorem dX2_within_9 : decode cX2_within 9 = .ok (.ireturn, 1) := by decide +kernel
theorem dX3_init_0 : decode cX3_init 0 = .ok (.aload_n 0, 1) := by decide +kernel
theorem dX3_init_1 : decode cX3_init 1 = .ok (.invokespecial 3, 3) := by decide +kernel
theorem dX3_init_4 : decode cX3_init 4 = .ok (.aload_n 0, 1) := by decide +kernel
theorem dX3_init_5 : decode cX3_init 5 = .ok (.bipush 6, 2) := by decide +kernel
theorem dX3_init_7 : decode cX3_init 7 = .ok (.newarray .int, 2) := by decide +kernel
theorem dX3_init_9 : decode cX3_init 9 = .ok (.putfield 9, 3) := by decide +kernel
theorem dX3_init_12 : decode cX3_init 12 = .ok (.aload_n 0, 1) := by decide +kernel
theorem dX3_init_13 : decode cX3_init 13 = .ok (.iconst 0, 1) := by decide +kernel
theorem dX3_init_14 : decode cX3_init 14 = .ok (.putfield 15, 3) := by decide +kernel
theorem dX3_init_17 : decode cX3_init 17 = .ok (.aload_n 0, 1) := by decide +kernel
theorem dX3_init_18 : decode cX3_init 18 = .ok (.iconst 0, 1) := by decide +kernel
theorem dX3_init_19 : decode cX3_init 19 = .ok (.putfield 19, 3) := by decide +kernel
theorem dX3_init_22 : decode cX3_init 22 = .ok (.aload_n 0, 1) := by decide +kernel
theorem dX3_init_23 : decode cX3_init 23 = .ok (.iconst 0, 1) := by decide +kernel
theorem dX3_init_24 : decode cX3_init 24 = .ok (.putfield 22, 3) := by decide +kernel
theorem dX3_init_27 : decode cX3_init 27 = .ok (.aload_n 0, 1) := by decide +kernel
theorem dX3_init_28 : decode cX3_init 28 = .ok (.aload_n 1, 1) := by decide +kernel
theorem dX3_init_29 : decode cX3_init 29 = .ok (.putfield 25, 3) := by decide +kernel
theorem dX3_init_32 : decode cX3_init 32 = .ok (.return_, 1) := by decide +kernel
theorem dX3_start_0 : decode cX3_start 0 = .ok (.aload_n 0, 1) := by decide +kernel
theorem dX3_start_1 : decode cX3_start 1 = .ok (.iload_n 2, 1) := by decide +kernel
theorem dX3_start_2 : decode cX3_start 2 = .ok (.aload_n 1, 1) := by decide +kernel
theorem dX3_start_3 : decode cX3_start 3 = .ok (.arraylength, 1) := by decide +kernel
theorem dX3_start_4 : decode cX3_start 4 = .ok (.invokestatic 29, 3) := by decide +kernel
theorem dX3_start_7 : decode cX3_start 7 = .ok (.bipush 6, 2) := by decide +kernel
theorem dX3_start_9 : decode cX3_start 9 = .ok (.invokestatic 29, 3) := by decide +kernel
theorem dX3_start_12 : decode cX3_start 12 = .ok (.putfield 15, 3) := by decide +kernel
theorem dX3_start_15 : decode cX3_start 15 = .ok (.iconst 0, 1) := by decide +kernel
theorem dX3_start_16 : decode cX3_start 16 = .ok (.istore_n 3, 1) := by decide +kernel
theorem dX3_start_17 : decode cX3_start 17 = .ok (.iload_n 3, 1) := by decide +kernel
theorem dX3_start_18 : decode cX3_start 18 = .ok (.aload_n 0, 1) := by decide +kernel
theorem dX3_start_19 : decode cX3_start 19 = .ok (.getfield 15, 3) := by decide +kernel
theorem dX3_start_22 : decode cX3_start 22 = .ok (.if_icmp .ge 18, 3) := by decide +kernel
theorem dX3_start_25 : decode cX3_start 25 = .ok (.aload_n 0, 1) := by decide +kernel
theorem dX3_start_26 : decode cX3_start 26 = .ok (.getfield 9, 3) := by decide +kernel
theorem dX3_start_29 : decode cX3_start 29 = .ok (.iload_n 3, 1) := by decide +kernel
theorem dX3_start_30 : decode cX3_start 30 = .ok (.aload_n 1, 1) := by decide +kernel
theorem dX3_start_31 : decode cX3_start 31 = .ok (.iload_n 3, 1) := by decide +kernel
theorem dX3_start_32 : decode cX3_start 32 = .ok (.iaload, 1) := by decide +kernel
theorem dX3_start_33 : decode cX3_start 33 = .ok (.iastore, 1) := by decide +kernel
theorem dX3_start_34 : decode cX3_start 34 = .ok (.iinc 3 1, 3) := by decide +kernel
theorem dX3_start_37 : decode cX3_start 37 = .ok (.goto (-20), 3) := by decide +kernel
theorem dX3_start_40 : decode cX3_start 40 = .ok (.aload_n 0, 1) := by decide +kernel
theorem dX3_start_41 : decode cX3_start 41 = .ok (.iconst (-1), 1) := by decide +kernel
theorem dX3_start_42 : decode cX3_start 42 = .ok (.putfield 22, 3) := by decide +kernel
theorem dX3_start_45 : decode cX3_start 45 = .ok (.return_, 1) := by decide +kernel
theorem dX3_search_0 : decode cX3_search 0 = .ok (.aload_n 0, 1) := by decide +kernel
theorem dX3_search_1 : decode cX3_search 1 = .ok (.getfield 22, 3) := by decide +kernel
theorem dX3_search_4 : decode cX3_search 4 = .ok (.iconst (-1), 1) := by decide +kernel
theorem dX3_search_5 : decode cX3_search 5 = .ok (.if_icmp .eq 18, 3) := by decide +kernel
theorem dX3_search_8 : decode cX3_search 8 = .ok (.aload_n 0, 1) := by decide +kernel
theorem dX3_search_9 : decode cX3_search 9 = .ok (.getfield 25, 3) := by decide +kernel
theorem dX3_search_12 : decode cX3_search 12 = .ok (.getfield 35, 3) := by decide +kernel
theorem dX3_search_15 : decode cX3_search 15 = .ok (.aload_n 0, 1) := by decide +kernel
theorem dX3_search_16 : decode cX3_search 16 = .ok (.getfield 19, 3) := by decide +kernel
theorem dX3_search_19 : decode cX3_search 19 = .ok (.if_icmp .lt 4, 3) := by decide +kernel
theorem dX3_search_22 : decode cX3_search 22 = .ok (.return_, 1) := by decide +kernel
theorem dX3_search_23 : decode cX3_search 23 = .ok (.iload_n 1, 1) := by decide +kernel
theorem dX3_search_24 : decode cX3_search 24 = .ok (.aload_n 0, 1) := by decide +kernel
theorem dX3_search_25 : decode cX3_search 25 = .ok (.getfield 15, 3) := by decide +kernel
theorem dX3_search_28 : decode cX3_search 28 = .ok (.if_icmp .lt 20, 3) := by decide +kernel
theorem dX3_search_31 : decode cX3_search 31 = .ok (.aload_n 0, 1) := by decide +kernel
theorem dX3_search_32 : decode cX3_search 32 = .ok (.iload_n 3, 1) := by decide +kernel
theorem dX3_search_33 : decode cX3_search 33 = .ok (.putfield 22, 3) := by decide +kernel
theorem dX3_search_36 : decode cX3_search 36 = .ok (.aload_n 0, 1) := by decide +kernel
theorem dX3_search_37 : decode cX3_search 37 = .ok (.aload_n 0, 1) := by decide +kernel
theorem dX3_search_38 : decode cX3_search 38 = .ok (.getfield 25, 3) := by decide +kernel
theorem dX3_search_41 : decode cX3_search 41 = .ok (.getfield 35, 3) := by decide +kernel
theorem dX3_search_44 : decode cX3_search 44 = .ok (.putfield 19, 3) := by decide +kernel
theorem dX3_search_47 : decode cX3_search 47 = .ok (.return_, 1) := by decide +kernel
theorem dX3_search_48 : decode cX3_search 48 = .ok (.iconst 0, 1) := by decide +kernel
theorem dX3_search_49 : decode cX3_search 49 = .ok (.istore 4, 2) := by decide +kernel
theorem dX3_search_51 : decode cX3_search 51 = .ok (.iload 4, 2) := by decide +kernel
theorem dX3_search_53 : decode cX3_search 53 = .ok (.aload_n 0, 1) := by decide +kernel
theorem dX3_search_54 : decode cX3_search 54 = .ok (.getfield 15, 3) := by decide +kernel
theorem dX3_search_57 : decode cX3_search 57 = .ok (.if_icmp .ge 28, 3) := by decide +kernel
theorem dX3_search_60 : decode cX3_search 60 = .ok (.aload_n 0, 1) := by decide +kernel
theorem dX3_search_61 : decode cX3_search 61 = .ok (.iload 4, 2) := by decide +kernel
theorem dX3_search_63 : decode cX3_search 63 = .ok (.iload_n 2, 1) := by decide +kernel
theorem dX3_search_64 : decode cX3_search 64 = .ok (.invokevirtual 40, 3) := by decide +kernel
theorem dX3_search_67 : decode cX3_search 67 = .ok (.ifCond .eq 12, 3) := by decide +kernel
theorem dX3_search_70 : decode cX3_search 70 = .ok (.aload_n 0, 1) := by decide +kernel
theorem dX3_search_71 : decode cX3_search 71 = .ok (.iload 4, 2) := by decide +kernel
theorem dX3_search_73 : decode cX3_search 73 = .ok (.iload_n 1, 1) := by decide +kernel
theorem dX3_search_74 : decode cX3_search 74 = .ok (.iload_n 2, 1) := by decide +kernel
theorem dX3_search_75 : decode cX3_search 75 = .ok (.iload_n 3, 1) := by decide +kernel
theorem dX3_search_76 : decode cX3_search 76 = .ok (.invokevirtual 44, 3) := by decide +kernel
theorem dX3_search_79 : decode cX3_search 79 = .ok (.iinc 4 1, 3) := by decide +kernel
theorem dX3_search_82 : decode cX3_search 82 = .ok (.goto (-31), 3) := by decide +kernel
theorem dX3_search_85 : decode cX3_search 85 = .ok (.return_, 1) := by decide +kernel
theorem dX3_tryPlace_0 : decode cX3_tryPlace 0 = .ok (.aload_n 0, 1) := by decide +kernel
theorem dX3_tryPlace_1 : decode cX3_tryPlace 1 = .ok (.getfield 9, 3) := by decide +kernel
theorem dX3_tryPlace_4 : decode cX3_tryPlace 4 = .ok (.iload_n 1, 1) := by decide +kernel
theorem dX3_tryPlace_5 : decode cX3_tryPlace 5 = .ok (.iaload, 1) := by decide +kernel
theorem dX3_tryPlace_6 : decode cX3_tryPlace 6 = .ok (.istore 5, 2) := by decide +kernel
theorem dX3_tryPlace_8 : decode cX3_tryPlace 8 = .ok (.aload_n 0, 1) := by decide +kernel
theorem dX3_tryPlace_9 : decode cX3_tryPlace 9 = .ok (.getfield 25, 3) := by decide +kernel
theorem dX3_tryPlace_12 : decode cX3_tryPlace 12 = .ok (.getfield 48, 3) := by decide +kernel
theorem dX3_tryPlace_15 : decode cX3_tryPlace 15 = .ok (.istore 6, 2) := by decide +kernel
theorem dX3_tryPlace_17 : decode cX3_tryPlace 17 = .ok (.aload_n 0, 1) := by decide +kernel
theorem dX3_tryPlace_18 : decode cX3_tryPlace 18 = .ok (.getfield 25, 3) := by decide +kernel
theorem dX3_tryPlace_21 : decode cX3_tryPlace 21 = .ok (.iload 5, 2) := by decide +kernel
theorem dX3_tryPlace_23 : decode cX3_tryPlace 23 = .ok (.invokevirtual 51, 3) := by decide +kernel
theorem dX3_tryPlace_26 : decode cX3_tryPlace 26 = .ok (.istore 7, 2) := by decide +kernel
theorem dX3_tryPlace_28 : decode cX3_tryPlace 28 = .ok (.iload 7, 2) := by decide +kernel
theorem dX3_tryPlace_30 : decode cX3_tryPlace 30 = .ok (.ifCond .eq 12, 3) := by decide +kernel
theorem dX3_tryPlace_33 : decode cX3_tryPlace 33 = .ok (.aload_n 0, 1) := by decide +kernel
theorem dX3_tryPlace_34 : decode cX3_tryPlace 34 = .ok (.getfield 25, 3) := by decide +kernel
theorem dX3_tryPlace_37 : decode cX3_tryPlace 37 = .ok (.iload 5, 2) := by decide +kernel
theorem dX3_tryPlace_39 : decode cX3_tryPlace 39 = .ok (.invokevirtual 55, 3) := by decide +kernel
theorem dX3_tryPlace_42 : decode cX3_tryPlace 42 = .ok (.aload_n 0, 1) := by decide +kernel
theorem dX3_tryPlace_43 : decode cX3_tryPlace 43 = .ok (.iload_n 2, 1) := by decide +kernel
theorem dX3_tryPlace_44 : decode cX3_tryPlace 44 = .ok (.iconst 1, 1) := by decide +kernel
theorem dX3_tryPlace_45 : decode cX3_tryPlace 45 = .ok (.iadd, 1) := by decide +kernel
theorem dX3_tryPlace_46 : decode cX3_tryPlace 46 = .ok (.iload_n 3, 1) := by decide +kernel
theorem dX3_tryPlace_47 : decode cX3_tryPlace 47 = .ok (.iconst 1, 1) := by decide +kernel
theorem dX3_tryPlace_48 : decode cX3_tryPlace 48 = .ok (.iload_n 1, 1) := by decide +kernel
theorem dX3_tryPlace_49 : decode cX3_tryPlace 49 = .ok (.ishl, 1) := by decide +kernel
theorem dX3_tryPlace_50 : decode cX3_tryPlace 50 = .ok (.ior, 1) := by decide +kernel
theorem dX3_tryPlace_51 : decode cX3_tryPlace 51 = .ok (.iload 4, 2) := by decide +kernel
theorem dX3_tryPlace_53 : decode cX3_tryPlace 53 = .ok (.bipush 10, 2) := by decide +kernel
theorem dX3_tryPlace_55 : decode cX3_tryPlace 55 = .ok (.imul, 1) := by decide +kernel
theorem dX3_tryPlace_56 : decode cX3_tryPlace 56 = .ok (.iload_n 1, 1) := by decide +kernel
theorem dX3_tryPlace_57 : decode cX3_tryPlace 57 = .ok (.iadd, 1) := by decide +kernel
theorem dX3_tryPlace_58 : decode cX3_tryPlace 58 = .ok (.iconst 1, 1) := by decide +kernel
theorem dX3_tryPlace_59 : decode cX3_tryPlace 59 = .ok (.iadd, 1) := by decide +kernel
theorem dX3_tryPlace_60 : decode cX3_tryPlace 60 = .ok (.invokevirtual 59, 3) := by decide +kernel
theorem dX3_tryPlace_63 : decode cX3_tryPlace 63 = .ok (.iload 7, 2) := by decide +kernel
theorem dX3_tryPlace_65 : decode cX3_tryPlace 65 = .ok (.ifCond .eq 14, 3) := by decide +kernel
theorem dX3_tryPlace_68 : decode cX3_tryPlace 68 = .ok (.aload_n 0, 1) := by decide +kernel
theorem dX3_tryPlace_69 : decode cX3_tryPlace 69 = .ok (.getfield 25, 3) := by decide +kernel
theorem dX3_tryPlace_72 : decode cX3_tryPlace 72 = .ok (.iload 5, 2) := by decide +kernel
theorem dX3_tryPlace_74 : decode cX3_tryPlace 74 = .ok (.iload 6, 2) := by decide +kernel
theorem dX3_tryPlace_76 : decode cX3_tryPlace 76 = .ok (.invokevirtual 63, 3) := by decide +kernel
theorem dX3_tryPlace_79 : decode cX3_tryPlace 79 = .ok (.return_, 1) := by decide +kernel
theorem dX3_isFree_0 : decode cX3_isFree 0 = .ok (.iload_n 2, 1) := by decide +kernel
theorem dX3_isFree_1 : decode cX3_isFree 1 = .ok (.iload_n 1, 1) := by decide +kernel
theorem dX3_isFree_2 : decode cX3_isFree 2 = .ok (.ishr, 1) := by decide +kernel
theorem dX3_isFree_3 : decode cX3_isFree 3 = .ok (.iconst 1, 1) := by decide +kernel
theorem dX3_isFree_4 : decode cX3_isFree 4 = .ok (.iand, 1) := by decide +kernel
theorem dX3_isFree_5 : decode cX3_isFree 5 = .ok (.ifCond .eq 5, 3) := by decide +kernel
theorem dX3_isFree_8 : decode cX3_isFree 8 = .ok (.iconst 0, 1) := by decide +kernel
theorem dX3_isFree_9 : decode cX3_isFree 9 = .ok (.ireturn, 1) := by decide +kernel
theorem dX3_isFree_10 : decode cX3_isFree 10 = .ok (.iconst 0, 1) := by decide +kernel
theorem dX3_isFree_11 : decode cX3_isFree 11 = .ok (.istore_n 3, 1) := by decide +kernel
theorem dX3_isFree_12 : decode cX3_isFree 12 = .ok (.iload_n 3, 1) := by decide +kernel
theorem dX3_isFree_13 : decode cX3_isFree 13 = .ok (.iload_n 1, 1) := by decide +kernel
theorem dX3_isFree_14 : decode cX3_isFree 14 = .ok (.if_icmp .ge 34, 3) := by decide +kernel
theorem dX3_isFree_17 : decode cX3_isFree 17 = .ok (.iload_n 2, 1) := by decide +kernel
theorem dX3_isFree_18 : decode cX3_isFree 18 = .ok (.iload_n 3, 1) := by decide +kernel
theorem dX3_isFree_19 : decode cX3_isFree 19 = .ok (.ishr, 1) := by decide +kernel
theorem dX3_isFree_20 : decode cX3_isFree 20 = .ok (.iconst 1, 1) := by decide +kernel
theorem dX3_isFree_21 : decode cX3_isFree 21 = .ok (.iand, 1) := by decide +kernel
theorem dX3_isFree_22 : decode cX3_isFree 22 = .ok (.ifCond .ne 20, 3) := by decide +kernel
theorem dX3_isFree_25 : decode cX3_isFree 25 = .ok (.aload_n 0, 1) := by decide +kernel
theorem dX3_isFree_26 : decode cX3_isFree 26 = .ok (.getfield 9, 3) := by decide +kernel
theorem dX3_isFree_29 : decode cX3_isFree 29 = .ok (.iload_n 3, 1) := by decide +kernel
theorem dX3_isFree_30 : decode cX3_isFree 30 = .ok (.iaload, 1) := by decide +kernel
theorem dX3_isFree_31 : decode cX3_isFree 31 = .ok (.aload_n 0, 1) := by decide +kernel
theorem dX3_isFree_32 : decode cX3_isFree 32 = .ok (.getfield 9, 3) := by decide +kernel
theorem dX3_isFree_35 : decode cX3_isFree 35 = .ok (.iload_n 1, 1) := by decide +kernel
theorem dX3_isFree_36 : decode cX3_isFree 36 = .ok (.iaload, 1) := by decide +kernel
theorem dX3_isFree_37 : decode cX3_isFree 37 = .ok (.if_icmp .ne 5, 3) := by decide +kernel
theorem dX3_isFree_40 : decode cX3_isFree 40 = .ok (.iconst 0, 1) := by decide +kernel
theorem dX3_isFree_41 : decode cX3_isFree 41 = .ok (.ireturn, 1) := by decide +kernel
theorem dX3_isFree_42 : decode cX3_isFree 42 = .ok (.iinc 3 1, 3) := by decide +kernel
theorem dX3_isFree_45 : decode cX3_isFree 45 = .ok (.goto (-33), 3) := by decide +kernel
theorem dX3_isFree_48 : decode cX3_isFree 48 = .ok (.iconst 1, 1) := by decide +kernel
theorem dX3_isFree_49 : decode cX3_isFree 49 = .ok (.ireturn, 1) := by decide +kernel
theorem dX4_init_0 : decode cX4_init 0 = .ok (.aload_n 0, 1) := by decide +kernel
theorem dX4_init_1 : decode cX4_init 1 = .ok (.invokespecial 3, 3) := by decide +kernel
theorem dX4_init_4 : decode cX4_init 4 = .ok (.aload_n 0, 1) := by decide +kernel
theorem dX4_init_5 : decode cX4_init 5 = .ok (.sipush 160, 3) := by decide +kernel
theorem dX4_init_8 : decode cX4_init 8 = .ok (.newarray .int, 2) := by decide +kernel
theorem dX4_init_10 : decode cX4_init 10 = .ok (.putfield 9, 3) := by decide +kernel
theorem dX4_init_13 : decode cX4_init 13 = .ok (.aload_n 0, 1) := by decide +kernel
theorem dX4_init_14 : decode cX4_init 14 = .ok (.iconst 3, 1) := by decide +kernel
theorem dX4_init_15 : decode cX4_init 15 = .ok (.newarray .int, 2) := by decide +kernel
theorem dX4_init_17 : decode cX4_init 17 = .ok (.putfield 17, 3) := by decide +kernel
theorem dX4_init_20 : decode cX4_init 20 = .ok (.aload_n 0, 1) := by decide +kernel
theorem dX4_init_21 : decode cX4_init 21 = .ok (.iconst 0, 1) := by decide +kernel
theorem dX4_init_22 : decode cX4_init 22 = .ok (.putfield 20, 3) := by decide +kernel
theorem dX4_init_25 : decode cX4_init 25 = .ok (.aload_n 0, 1) := by decide +kernel
theorem dX4_init_26 : decode cX4_init 26 = .ok (.iconst 0, 1) := by decide +kernel
theorem dX4_init_27 : decode cX4_init 27 = .ok (.putfield 24, 3) := by decide +kernel
theorem dX4_init_30 : decode cX4_init 30 = .ok (.aload_n 0, 1) := by decide +kernel
theorem dX4_init_31 : decode cX4_init 31 = .ok (.iconst (-1), 1) := by decide +kernel
theorem dX4_init_32 : decode cX4_init 32 = .ok (.putfield 27, 3) := by decide +kernel
theorem dX4_init_35 : decode cX4_init 35 = .ok (.aload_n 0, 1) := by decide +kernel
theorem dX4_init_36 : decode cX4_init 36 = .ok (.bipush 13, 2) := by decide +kernel
theorem dX4_init_38 : decode cX4_init 38 = .ok (.putfield 30, 3) := by decide +kernel
theorem dX4_init_41 : decode cX4_init 41 = .ok (.aload_n 0, 1) := by decide +kernel
theorem dX4_init_42 : decode cX4_init 42 = .ok (.iconst 0, 1) := by decide +kernel
theorem dX4_init_43 : decode cX4_init 43 = .ok (.putfield 33, 3) := by decide +kernel
theorem dX4_init_46 : decode cX4_init 46 = .ok (.aload_n 0, 1) := by decide +kernel
theorem dX4_init_47 : decode cX4_init 47 = .ok (.iconst 0, 1) := by decide +kernel
theorem dX4_init_48 : decode cX4_init 48 = .ok (.putfield 36, 3) := by decide +kernel
theorem dX4_init_51 : decode cX4_init 51 = .ok (.aload_n 0, 1) := by decide +kernel
theorem dX4_init_52 : decode cX4_init 52 = .ok (.aload_n 1, 1) := by decide +kernel
theorem dX4_init_53 : decode cX4_init 53 = .ok (.putfield 39, 3) := by decide +kernel
theorem dX4_init_56 : decode cX4_init 56 = .ok (.return_, 1) := by decide +kernel
theorem dX4_readTape_0 : decode cX4_readTape 0 = .ok (.aload_n 0, 1) := by decide +kernel
theorem dX4_readTape_1 : decode cX4_readTape 1 = .ok (.iconst 0, 1) := by decide +kernel
theorem dX4_readTape_2 : decode cX4_readTape 2 = .ok (.putfield 20, 3) := by decide +kernel
theorem dX4_readTape_5 : decode cX4_readTape 5 = .ok (.aload_n 0, 1) := by decide +kernel
theorem dX4_readTape_6 : decode cX4_readTape 6 = .ok (.iconst 0, 1) := by decide +kernel
theorem dX4_readTape_7 : decode cX4_readTape 7 = .ok (.putfield 24, 3) := by decide +kernel
theorem dX4_readTape_10 : decode cX4_readTape 10 = .ok (.aload_n 0, 1) := by decide +kernel
theorem dX4_readTape_11 : decode cX4_readTape 11 = .ok (.iconst (-1), 1) := by decide +kernel
theorem dX4_readTape_12 : decode cX4_readTape 12 = .ok (.putfield 27, 3) := by decide +kernel
theorem dX4_readTape_15 : decode cX4_readTape 15 = .ok (.aload_n 0, 1) := by decide +kernel
theorem dX4_readTape_16 : decode cX4_readTape 16 = .ok (.invokevirtual 43, 3) := by decide +kernel
theorem dX4_readTape_19 : decode cX4_readTape 19 = .ok (.iconst 0, 1) := by decide +kernel
theorem dX4_readTape_20 : decode cX4_readTape 20 = .ok (.istore_n 1, 1) := by decide +kernel
theorem dX4_readTape_21 : decode cX4_readTape 21 = .ok (.iload_n 1, 1) := by decide +kernel
theorem dX4_readTape_22 : decode cX4_readTape 22 = .ok (.iconst 3, 1) := by decide +kernel
theorem dX4_readTape_23 : decode cX4_readTape 23 = .ok (.if_icmp .ge 38, 3) := by decide +kernel
theorem dX4_readTape_26 : decode cX4_readTape 26 = .ok (.aload_n 0, 1) := by decide +kernel
theorem dX4_readTape_27 : decode cX4_readTape 27 = .ok (.bipush 6, 2) := by decide +kernel
theorem dX4_readTape_29 : decode cX4_readTape 29 = .ok (.iload_n 1, 1) := by decide +kernel
theorem dX4_readTape_30 : decode cX4_readTape 30 = .ok (.iadd, 1) := by decide +kernel
theorem dX4_readTape_31 : decode cX4_readTape 31 = .ok (.invokevirtual 46, 3) := by decide +kernel
theorem dX4_readTape_34 : decode cX4_readTape 34 = .ok (.aload_n 0, 1) := by decide +kernel
theorem dX4_readTape_35 : decode cX4_readTape 35 = .ok (.iconst 0, 1) := by decide +kernel
theorem dX4_readTape_36 : decode cX4_readTape 36 = .ok (.invokevirtual 50, 3) := by decide +kernel
theorem dX4_readTape_39 : decode cX4_readTape 39 = .ok (.aload_n 0, 1) := by decide +kernel
theorem dX4_readTape_40 : decode cX4_readTape 40 = .ok (.bipush 59, 2) := by decide +kernel
theorem dX4_readTape_42 : decode cX4_readTape 42 = .ok (.invokevirtual 46, 3) := by decide +kernel
theorem dX4_readTape_45 : decode cX4_readTape 45 = .ok (.aload_n 0, 1) := by decide +kernel
theorem dX4_readTape_46 : decode cX4_readTape 46 = .ok (.getfield 17, 3) := by decide +kernel
theorem dX4_readTape_49 : decode cX4_readTape 49 = .ok (.iload_n 1, 1) := by decide +kernel
theorem dX4_readTape_50 : decode cX4_readTape 50 = .ok (.aload_n 0, 1) := by decide +kernel
theorem dX4_readTape_51 : decode cX4_readTape 51 = .ok (.getfield 20, 3) := by decide +kernel
theorem dX4_readTape_54 : decode cX4_readTape 54 = .ok (.iastore, 1) := by decide +kernel
theorem dX4_readTape_55 : decode cX4_readTape 55 = .ok (.iinc 1 1, 3) := by decide +kernel
theorem dX4_readTape_58 : decode cX4_readTape 58 = .ok (.goto (-37), 3) := by decide +kernel
theorem dX4_readTape_61 : decode cX4_readTape 61 = .ok (.aload_n 0, 1) := by decide +kernel
theorem dX4_readTape_62 : decode cX4_readTape 62 = .ok (.bipush 13, 2) := by decide +kernel
theorem dX4_readTape_64 : decode cX4_readTape 64 = .ok (.invokevirtual 46, 3) := by decide +kernel
theorem dX4_readTape_67 : decode cX4_readTape 67 = .ok (.aload_n 0, 1) := by decide +kernel
theorem dX4_readTape_68 : decode cX4_readTape 68 = .ok (.getfield 27, 3) := by decide +kernel
theorem dX4_readTape_71 : decode cX4_readTape 71 = .ok (.ireturn, 1) := by decide +kernel
theorem dX4_expect_0 : decode cX4_expect 0 = .ok (.aload_n 0, 1) := by decide +kernel
theorem dX4_expect_1 : decode cX4_expect 1 = .ok (.getfield 30, 3) := by decide +kernel
theorem dX4_expect_4 : decode cX4_expect 4 = .ok (.iload_n 1, 1) := by decide +kernel
theorem dX4_expect_5 : decode cX4_expect 5 = .ok (.if_icmp .ne 10, 3) := by decide +kernel
theorem dX4_expect_8 : decode cX4_expect 8 = .ok (.aload_n 0, 1) := by decide +kernel
theorem dX4_expect_9 : decode cX4_expect 9 = .ok (.invokevirtual 43, 3) := by decide +kernel
theorem dX4_expect_12 : decode cX4_expect 12 = .ok (.goto 7, 3) := by decide +kernel
theorem dX4_expect_15 : decode cX4_expect 15 = .ok (.aload_n 0, 1) := by decide +kernel
theorem dX4_expect_16 : decode cX4_expect 16 = .ok (.invokevirtual 53, 3) := by decide +kernel
theorem dX4_expect_19 : decode cX4_expect 19 = .ok (.return_, 1) := by decide +kernel
theorem dX4_fail_0 : decode cX4_fail 0 = .ok (.aload_n 0, 1) := by decide +kernel
theorem dX4_fail_1 : decode cX4_fail 1 = .ok (.getfield 27, 3) := by decide +kernel
theorem dX4_fail_4 : decode cX4_fail 4 = .ok (.iconst (-1), 1) := by decide +kernel
theorem dX4_fail_5 : decode cX4_fail 5 = .ok (.if_icmp .ne 11, 3) := by decide +kernel
theorem dX4_fail_8 : decode cX4_fail 8 = .ok (.aload_n 0, 1) := by decide +kernel
theorem dX4_fail_9 : decode cX4_fail 9 = .ok (.aload_n 0, 1) := by decide +kernel
theorem dX4_fail_10 : decode cX4_fail 10 = .ok (.getfield 33, 3) := by decide +kernel
theorem dX4_fail_13 : decode cX4_fail 13 = .ok (.putfield 27, 3) := by decide +kernel
theorem dX4_fail_16 : decode cX4_fail 16 = .ok (.aload_n 0, 1) := by decide +kernel
theorem dX4_fail_17 : decode cX4_fail 17 = .ok (.bipush 14, 2) := by decide +kernel
theorem dX4_fail_19 : decode cX4_fail 19 = .ok (.putfield 30, 3) := by decide +kernel
theorem dX4_fail_22 : decode cX4_fail 22 = .ok (.return_, 1) := by decide +kernel
theorem dX4_make_0 : decode cX4_make 0 = .ok (.aload_n 0, 1) := by decide +kernel
theorem dX4_make_1 : decode cX4_make 1 = .ok (.getfield 20, 3) := by decide +kernel
theorem dX4_make_4 : decode cX4_make 4 = .ok (.sipush 160, 3) := by decide +kernel
theorem dX4_make_7 : decode cX4_make 7 = .ok (.if_icmp .ge 23, 3) := by decide +kernel
theorem dX4_make_10 : decode cX4_make 10 = .ok (.aload_n 0, 1) := by decide +kernel
theorem dX4_make_11 : decode cX4_make 11 = .ok (.getfield 9, 3) := by decide +kernel
theorem dX4_make_14 : decode cX4_make 14 = .ok (.aload_n 0, 1) := by decide +kernel
theorem dX4_make_15 : decode cX4_make 15 = .ok (.getfield 20, 3) := by decide +kernel
theorem dX4_make_18 : decode cX4_make 18 = .ok (.iload_n 1, 1) := by decide +kernel
theorem dX4_make_19 : decode cX4_make 19 = .ok (.iastore, 1) := by decide +kernel
theorem dX4_make_20 : decode cX4_make 20 = .ok (.aload_n 0, 1) := by decide +kernel
theorem dX4_make_21 : decode cX4_make 21 = .ok (.dup, 1) := by decide +kernel
theorem dX4_make_22 : decode cX4_make 22 = .ok (.getfield 20, 3) := by decide +kernel
theorem dX4_make_25 : decode cX4_make 25 = .ok (.iconst 1, 1) := by decide +kernel
theorem dX4_make_26 : decode cX4_make 26 = .ok (.iadd, 1) := by decide +kernel
theorem dX4_make_27 : decode cX4_make 27 = .ok (.putfield 20, 3) := by decide +kernel
theorem dX4_make_30 : decode cX4_make 30 = .ok (.return_, 1) := by decide +kernel
theorem dX4_readOr_0 : decode cX4_readOr 0 = .ok (.aload_n 0, 1) := by decide +kernel
theorem dX4_readOr_1 : decode cX4_readOr 1 = .ok (.iload_n 1, 1) := by decide +kernel
theorem dX4_readOr_2 : decode cX4_readOr 2 = .ok (.invokevirtual 56, 3) := by decide +kernel
theorem dX4_readOr_5 : decode cX4_readOr 5 = .ok (.iconst 0, 1) := by decide +kernel
theorem dX4_readOr_6 : decode cX4_readOr 6 = .ok (.istore_n 2, 1) := by decide +kernel
theorem dX4_readOr_7 : decode cX4_readOr 7 = .ok (.iload_n 2, 1) := by decide +kernel
theorem dX4_readOr_8 : decode cX4_readOr 8 = .ok (.sipush 160, 3) := by decide +kernel
theorem dX4_readOr_11 : decode cX4_readOr 11 = .ok (.if_icmp .ge 33, 3) := by decide +kernel
theorem dX4_readOr_14 : decode cX4_readOr 14 = .ok (.aload_n 0, 1) := by decide +kernel
theorem dX4_readOr_15 : decode cX4_readOr 15 = .ok (.getfield 30, 3) := by decide +kernel
theorem dX4_readOr_18 : decode cX4_readOr 18 = .ok (.bipush 9, 2) := by decide +kernel
theorem dX4_readOr_20 : decode cX4_readOr 20 = .ok (.if_icmp .ne 24, 3) := by decide +kernel
theorem dX4_readOr_23 : decode cX4_readOr 23 = .ok (.aload_n 0, 1) := by decide +kernel
theorem dX4_readOr_24 : decode cX4_readOr 24 = .ok (.invokevirtual 43, 3) := by decide +kernel
theorem dX4_readOr_27 : decode cX4_readOr 27 = .ok (.aload_n 0, 1) := by decide +kernel
theorem dX4_readOr_28 : decode cX4_readOr 28 = .ok (.iload_n 1, 1) := by decide +kernel
theorem dX4_readOr_29 : decode cX4_readOr 29 = .ok (.invokevirtual 56, 3) := by decide +kernel
theorem dX4_readOr_32 : decode cX4_readOr 32 = .ok (.aload_n 0, 1) := by decide +kernel
theorem dX4_readOr_33 : decode cX4_readOr 33 = .ok (.bipush (-10), 2) := by decide +kernel
theorem dX4_readOr_35 : decode cX4_readOr 35 = .ok (.invokevirtual 59, 3) := by decide +kernel
theorem dX4_readOr_38 : decode cX4_readOr 38 = .ok (.iinc 2 1, 3) := by decide +kernel
theorem dX4_readOr_41 : decode cX4_readOr 41 = .ok (.goto (-34), 3) := by decide +kernel
theorem dX4_readOr_44 : decode cX4_readOr 44 = .ok (.return_, 1) := by decide +kernel
theorem dX4_readAnd_0 : decode cX4_readAnd 0 = .ok (.aload_n 0, 1) := by decide +kernel
theorem dX4_readAnd_1 : decode cX4_readAnd 1 = .ok (.iload_n 1, 1) := by decide +kernel
theorem dX4_readAnd_2 : decode cX4_readAnd 2 = .ok (.invokevirtual 62, 3) := by decide +kernel
theorem dX4_readAnd_5 : decode cX4_readAnd 5 = .ok (.iconst 0, 1) := by decide +kernel
theorem dX4_readAnd_6 : decode cX4_readAnd 6 = .ok (.istore_n 2, 1) := by decide +kernel
theorem dX4_readAnd_7 : decode cX4_readAnd 7 = .ok (.iload_n 2, 1) := by decide +kernel
theorem dX4_readAnd_8 : decode cX4_readAnd 8 = .ok (.sipush 160, 3) := by decide +kernel
theorem dX4_readAnd_11 : decode cX4_readAnd 11 = .ok (.if_icmp .ge 33, 3) := by decide +kernel
theorem dX4_readAnd_14 : decode cX4_readAnd 14 = .ok (.aload_n 0, 1) := by decide +kernel
theorem dX4_readAnd_15 : decode cX4_readAnd 15 = .ok (.getfield 30, 3) := by decide +kernel
theorem dX4_readAnd_18 : decode cX4_readAnd 18 = .ok (.bipush 10, 2) := by decide +kernel
theorem dX4_readAnd_20 : decode cX4_readAnd 20 = .ok (.if_icmp .ne 24, 3) := by decide +kernel
theorem dX4_readAnd_23 : decode cX4_readAnd 23 = .ok (.aload_n 0, 1) := by decide +kernel
theorem dX4_readAnd_24 : decode cX4_readAnd 24 = .ok (.invokevirtual 43, 3) := by decide +kernel
theorem dX4_readAnd_27 : decode cX4_readAnd 27 = .ok (.aload_n 0, 1) := by decide +kernel
theorem dX4_readAnd_28 : decode cX4_readAnd 28 = .ok (.iload_n 1, 1) := by decide +kernel
theorem dX4_readAnd_29 : decode cX4_readAnd 29 = .ok (.invokevirtual 62, 3) := by decide +kernel
theorem dX4_readAnd_32 : decode cX4_readAnd 32 = .ok (.aload_n 0, 1) := by decide +kernel
theorem dX4_readAnd_33 : decode cX4_readAnd 33 = .ok (.bipush (-11), 2) := by decide +kernel
theorem dX4_readAnd_35 : decode cX4_readAnd 35 = .ok (.invokevirtual 59, 3) := by decide +kernel
theorem dX4_readAnd_38 : decode cX4_readAnd 38 = .ok (.iinc 2 1, 3) := by decide +kernel
theorem dX4_readAnd_41 : decode cX4_readAnd 41 = .ok (.goto (-34), 3) := by decide +kernel
theorem dX4_readAnd_44 : decode cX4_readAnd 44 = .ok (.return_, 1) := by decide +kernel
theorem dX4_readNot_0 : decode cX4_readNot 0 = .ok (.aload_n 0, 1) := by decide +kernel
theorem dX4_readNot_1 : decode cX4_readNot 1 = .ok (.getfield 30, 3) := by decide +kernel
theorem dX4_readNot_4 : decode cX4_readNot 4 = .ok (.bipush 11, 2) := by decide +kernel
theorem dX4_readNot_6 : decode cX4_readNot 6 = .ok (.if_icmp .ne 26, 3) := by decide +kernel
theorem dX4_readNot_9 : decode cX4_readNot 9 = .ok (.iload_n 1, 1) := by decide +kernel
theorem dX4_readNot_10 : decode cX4_readNot 10 = .ok (.iconst 5, 1) := by decide +kernel
theorem dX4_readNot_11 : decode cX4_readNot 11 = .ok (.if_icmp .ge 21, 3) := by decide +kernel
theorem dX4_readNot_14 : decode cX4_readNot 14 = .ok (.aload_n 0, 1) := by decide +kernel
theorem dX4_readNot_15 : decode cX4_readNot 15 = .ok (.invokevirtual 43, 3) := by decide +kernel
theorem dX4_readNot_18 : decode cX4_readNot 18 = .ok (.aload_n 0, 1) := by decide +kernel
theorem dX4_readNot_19 : decode cX4_readNot 19 = .ok (.iload_n 1, 1) := by decide +kernel
theorem dX4_readNot_20 : decode cX4_readNot 20 = .ok (.iconst 1, 1) := by decide +kernel
theorem dX4_readNot_21 : decode cX4_readNot 21 = .ok (.iadd, 1) := by decide +kernel
theorem dX4_readNot_22 : decode cX4_readNot 22 = .ok (.invokevirtual 62, 3) := by decide +kernel
theorem dX4_readNot_25 : decode cX4_readNot 25 = .ok (.aload_n 0, 1) := by decide +kernel
theorem dX4_readNot_26 : decode cX4_readNot 26 = .ok (.bipush (-12), 2) := by decide +kernel
theorem dX4_readNot_28 : decode cX4_readNot 28 = .ok (.invokevirtual 59, 3) := by decide +kernel
theorem dX4_readNot_31 : decode cX4_readNot 31 = .ok (.return_, 1) := by decide +kernel
theorem dX4_readNot_32 : decode cX4_readNot 32 = .ok (.aload_n 0, 1) := by decide +kernel
theorem dX4_readNot_33 : decode cX4_readNot 33 = .ok (.iload_n 1, 1) := by decide +kernel
theorem dX4_readNot_34 : decode cX4_readNot 34 = .ok (.invokevirtual 65, 3) := by decide +kernel
theorem dX4_readNot_37 : decode cX4_readNot 37 = .ok (.aload_n 0, 1) := by decide +kernel
theorem dX4_readNot_38 : decode cX4_readNot 38 = .ok (.getfield 30, 3) := by decide +kernel
theorem dX4_readNot_41 : decode cX4_readNot 41 = .ok (.bipush 60, 2) := by decide +kernel
theorem dX4_readNot_43 : decode cX4_readNot 43 = .ok (.if_icmp .eq 12, 3) := by decide +kernel
theorem dX4_readNot_46 : decode cX4_readNot 46 = .ok (.aload_n 0, 1) := by decide +kernel
theorem dX4_readNot_47 : decode cX4_readNot 47 = .ok (.getfield 30, 3) := by decide +kernel
theorem dX4_readNot_50 : decode cX4_readNot 50 = .ok (.bipush 61, 2) := by decide +kernel
theorem dX4_readNot_52 : decode cX4_readNot 52 = .ok (.if_icmp .ne 34, 3) := by decide +kernel
theorem dX4_readNot_55 : decode cX4_readNot 55 = .ok (.aload_n 0, 1) := by decide +kernel
theorem dX4_readNot_56 : decode cX4_readNot 56 = .ok (.getfield 30, 3) := by decide +kernel
theorem dX4_readNot_59 : decode cX4_readNot 59 = .ok (.bipush 60, 2) := by decide +kernel
theorem dX4_readNot_61 : decode cX4_readNot 61 = .ok (.if_icmp .ne 8, 3) := by decide +kernel
theorem dX4_readNot_64 : decode cX4_readNot 64 = .ok (.bipush (-13), 2) := by decide +kernel
theorem dX4_readNot_66 : decode cX4_readNot 66 = .ok (.goto 5, 3) := by decide +kernel
theorem dX4_readNot_69 : decode cX4_readNot 69 = .ok (.bipush (-14), 2) := by decide +kernel
theorem dX4_readNot_71 : decode cX4_readNot 71 = .ok (.istore_n 2, 1) := by decide +kernel
theorem dX4_readNot_72 : decode cX4_readNot 72 = .ok (.aload_n 0, 1) := by decide +kernel
theorem dX4_readNot_73 : decode cX4_readNot 73 = .ok (.invokevirtual 43, 3) := by decide +kernel
theorem dX4_readNot_76 : decode cX4_readNot 76 = .ok (.aload_n 0, 1) := by decide +kernel
theorem dX4_readNot_77 : decode cX4_readNot 77 = .ok (.iload_n 1, 1) := by decide +kernel
theorem dX4_readNot_78 : decode cX4_readNot 78 = .ok (.invokevirtual 65, 3) := by decide +kernel
theorem dX4_readNot_81 : decode cX4_readNot 81 = .ok (.aload_n 0, 1) := by decide +kernel
theorem dX4_readNot_82 : decode cX4_readNot 82 = .ok (.iload_n 2, 1) := by decide +kernel
theorem dX4_readNot_83 : decode cX4_readNot 83 = .ok (.invokevirtual 59, 3) := by decide +kernel
theorem dX4_readNot_86 : decode cX4_readNot 86 = .ok (.return_, 1) := by decide +kernel
theorem dX4_readSum_0 : decode cX4_readSum 0 = .ok (.aload_n 0, 1) := by decide +kernel
theorem dX4_readSum_1 : decode cX4_readSum 1 = .ok (.iload_n 1, 1) := by decide +kernel
theorem dX4_readSum_2 : decode cX4_readSum 2 = .ok (.invokevirtual 68, 3) := by decide +kernel
theorem dX4_readSum_5 : decode cX4_readSum 5 = .ok (.iconst 0, 1) := by decide +kernel
theorem dX4_readSum_6 : decode cX4_readSum 6 = .ok (.istore_n 2, 1) := by decide +kernel
theorem dX4_readSum_7 : decode cX4_readSum 7 = .ok (.iload_n 2, 1) := by decide +kernel
theorem dX4_readSum_8 : decode cX4_readSum 8 = .ok (.sipush 160, 3) := by decide +kernel
theorem dX4_readSum_11 : decode cX4_readSum 11 = .ok (.if_icmp .ge 58, 3) := by decide +kernel
theorem dX4_readSum_14 : decode cX4_readSum 14 = .ok (.aload_n 0, 1) := by decide +kernel
theorem dX4_readSum_15 : decode cX4_readSum 15 = .ok (.getfield 30, 3) := by decide +kernel
theorem dX4_readSum_18 : decode cX4_readSum 18 = .ok (.bipush 43, 2) := by decide +kernel
theorem dX4_readSum_20 : decode cX4_readSum 20 = .ok (.if_icmp .eq 12, 3) := by decide +kernel
theorem dX4_readSum_23 : decode cX4_readSum 23 = .ok (.aload_n 0, 1) := by decide +kernel
theorem dX4_readSum_24 : decode cX4_readSum 24 = .ok (.getfield 30, 3) := by decide +kernel
theorem dX4_readSum_27 : decode cX4_readSum 27 = .ok (.bipush 45, 2) := by decide +kernel
theorem dX4_readSum_29 : decode cX4_readSum 29 = .ok (.if_icmp .ne 40, 3) := by decide +kernel
theorem dX4_readSum_32 : decode cX4_readSum 32 = .ok (.aload_n 0, 1) := by decide +kernel
theorem dX4_readSum_33 : decode cX4_readSum 33 = .ok (.getfield 30, 3) := by decide +kernel
theorem dX4_readSum_36 : decode cX4_readSum 36 = .ok (.bipush 43, 2) := by decide +kernel
theorem dX4_readSum_38 : decode cX4_readSum 38 = .ok (.if_icmp .ne 8, 3) := by decide +kernel
theorem dX4_readSum_41 : decode cX4_readSum 41 = .ok (.bipush (-15), 2) := by decide +kernel
theorem dX4_readSum_43 : decode cX4_readSum 43 = .ok (.goto 5, 3) := by decide +kernel
theorem dX4_readSum_46 : decode cX4_readSum 46 = .ok (.bipush (-16), 2) := by decide +kernel
theorem dX4_readSum_48 : decode cX4_readSum 48 = .ok (.istore_n 3, 1) := by decide +kernel
theorem dX4_readSum_49 : decode cX4_readSum 49 = .ok (.aload_n 0, 1) := by decide +kernel
theorem dX4_readSum_50 : decode cX4_readSum 50 = .ok (.invokevirtual 43, 3) := by decide +kernel
theorem dX4_readSum_53 : decode cX4_readSum 53 = .ok (.aload_n 0, 1) := by decide +kernel
theorem dX4_readSum_54 : decode cX4_readSum 54 = .ok (.iload_n 1, 1) := by decide +kernel
theorem dX4_readSum_55 : decode cX4_readSum 55 = .ok (.invokevirtual 68, 3) := by decide +kernel
theorem dX4_readSum_58 : decode cX4_readSum 58 = .ok (.aload_n 0, 1) := by decide +kernel
theorem dX4_readSum_59 : decode cX4_readSum 59 = .ok (.iload_n 3, 1) := by decide +kernel
theorem dX4_readSum_60 : decode cX4_readSum 60 = .ok (.invokevirtual 59, 3) := by decide +kernel
theorem dX4_readSum_63 : decode cX4_readSum 63 = .ok (.iinc 2 1, 3) := by decide +kernel
theorem dX4_readSum_66 : decode cX4_readSum 66 = .ok (.goto (-59), 3) := by decide +kernel
theorem dX4_readSum_69 : decode cX4_readSum 69 = .ok (.return_, 1) := by decide +kernel
theorem dX4_readTerm_0 : decode cX4_readTerm 0 = .ok (.aload_n 0, 1) := by decide +kernel
theorem dX4_readTerm_1 : decode cX4_readTerm 1 = .ok (.iload_n 1, 1) := by decide +kernel
theorem dX4_readTerm_2 : decode cX4_readTerm 2 = .ok (.invokevirtual 71, 3) := by decide +kernel
theorem dX4_readTerm_5 : decode cX4_readTerm 5 = .ok (.iconst 0, 1) := by decide +kernel
theorem dX4_readTerm_6 : decode cX4_readTerm 6 = .ok (.istore_n 2, 1) := by decide +kernel
theorem dX4_readTerm_7 : decode cX4_readTerm 7 = .ok (.iload_n 2, 1) := by decide +kernel
theorem dX4_readTerm_8 : decode cX4_readTerm 8 = .ok (.sipush 160, 3) := by decide +kernel
theorem dX4_readTerm_11 : decode cX4_readTerm 11 = .ok (.if_icmp .ge 33, 3) := by decide +kernel
theorem dX4_readTerm_14 : decode cX4_readTerm 14 = .ok (.aload_n 0, 1) := by decide +kernel
theorem dX4_readTerm_15 : decode cX4_readTerm 15 = .ok (.getfield 30, 3) := by decide +kernel
theorem dX4_readTerm_18 : decode cX4_readTerm 18 = .ok (.bipush 42, 2) := by decide +kernel
theorem dX4_readTerm_20 : decode cX4_readTerm 20 = .ok (.if_icmp .ne 24, 3) := by decide +kernel
theorem dX4_readTerm_23 : decode cX4_readTerm 23 = .ok (.aload_n 0, 1) := by decide +kernel
theorem dX4_readTerm_24 : decode cX4_readTerm 24 = .ok (.invokevirtual 43, 3) := by decide +kernel
theorem dX4_readTerm_27 : decode cX4_readTerm 27 = .ok (.aload_n 0, 1) := by decide +kernel
theorem dX4_readTerm_28 : decode cX4_readTerm 28 = .ok (.iload_n 1, 1) := by decide +kernel
theorem dX4_readTerm_29 : decode cX4_readTerm 29 = .ok (.invokevirtual 71, 3) := by decide +kernel
theorem dX4_readTerm_32 : decode cX4_readTerm 32 = .ok (.aload_n 0, 1) := by decide +kernel
theorem dX4_readTerm_33 : decode cX4_readTerm 33 = .ok (.bipush (-17), 2) := by decide +kernel
theorem dX4_readTerm_35 : decode cX4_readTerm 35 = .ok (.invokevirtual 59, 3) := by decide +kernel
theorem dX4_readTerm_38 : decode cX4_readTerm 38 = .ok (.iinc 2 1, 3) := by decide +kernel
theorem dX4_readTerm_41 : decode cX4_readTerm 41 = .ok (.goto (-34), 3) := by decide +kernel
theorem dX4_readTerm_44 : decode cX4_readTerm 44 = .ok (.return_, 1) := by decide +kernel
theorem dX4_readOne_0 : decode cX4_readOne 0 = .ok (.aload_n 0, 1) := by decide +kernel
theorem dX4_readOne_1 : decode cX4_readOne 1 = .ok (.getfield 30, 3) := by decide +kernel
theorem dX4_readOne_4 : decode cX4_readOne 4 = .ok (.bipush 12, 2) := by decide +kernel
theorem dX4_readOne_6 : decode cX4_readOne 6 = .ok (.if_icmp .ne 18, 3) := by decide +kernel
theorem dX4_readOne_9 : decode cX4_readOne 9 = .ok (.aload_n 0, 1) := by decide +kernel
theorem dX4_readOne_10 : decode cX4_readOne 10 = .ok (.aload_n 0, 1) := by decide +kernel
theorem dX4_readOne_11 : decode cX4_readOne 11 = .ok (.getfield 36, 3) := by decide +kernel
theorem dX4_readOne_14 : decode cX4_readOne 14 = .ok (.invokevirtual 59, 3) := by decide +kernel
theorem dX4_readOne_17 : decode cX4_readOne 17 = .ok (.aload_n 0, 1) := by decide +kernel
theorem dX4_readOne_18 : decode cX4_readOne 18 = .ok (.invokevirtual 43, 3) := by decide +kernel
theorem dX4_readOne_21 : decode cX4_readOne 21 = .ok (.goto 108, 3) := by decide +kernel
theorem dX4_readOne_24 : decode cX4_readOne 24 = .ok (.aload_n 0, 1) := by decide +kernel
theorem dX4_readOne_25 : decode cX4_readOne 25 = .ok (.getfield 30, 3) := by decide +kernel
theorem dX4_readOne_28 : decode cX4_readOne 28 = .ok (.ifCond .lt 29, 3) := by decide +kernel
theorem dX4_readOne_31 : decode cX4_readOne 31 = .ok (.aload_n 0, 1) := by decide +kernel
theorem dX4_readOne_32 : decode cX4_readOne 32 = .ok (.getfield 30, 3) := by decide +kernel
theorem dX4_readOne_35 : decode cX4_readOne 35 = .ok (.bipush 6, 2) := by decide +kernel
theorem dX4_readOne_37 : decode cX4_readOne 37 = .ok (.if_icmp .ge 20, 3) := by decide +kernel
theorem dX4_readOne_40 : decode cX4_readOne 40 = .ok (.aload_n 0, 1) := by decide +kernel
theorem dX4_readOne_41 : decode cX4_readOne 41 = .ok (.iconst (-1), 1) := by decide +kernel
theorem dX4_readOne_42 : decode cX4_readOne 42 = .ok (.aload_n 0, 1) := by decide +kernel
theorem dX4_readOne_43 : decode cX4_readOne 43 = .ok (.getfield 30, 3) := by decide +kernel
theorem dX4_readOne_46 : decode cX4_readOne 46 = .ok (.isub, 1) := by decide +kernel
theorem dX4_readOne_47 : decode cX4_readOne 47 = .ok (.invokevirtual 59, 3) := by decide +kernel
theorem dX4_readOne_50 : decode cX4_readOne 50 = .ok (.aload_n 0, 1) := by decide +kernel
theorem dX4_readOne_51 : decode cX4_readOne 51 = .ok (.invokevirtual 43, 3) := by decide +kernel
theorem dX4_readOne_54 : decode cX4_readOne 54 = .ok (.goto 75, 3) := by decide +kernel
theorem dX4_readOne_57 : decode cX4_readOne 57 = .ok (.aload_n 0, 1) := by decide +kernel
theorem dX4_readOne_58 : decode cX4_readOne 58 = .ok (.getfield 30, 3) := by decide +kernel
theorem dX4_readOne_61 : decode cX4_readOne 61 = .ok (.bipush 45, 2) := by decide +kernel
theorem dX4_readOne_63 : decode cX4_readOne 63 = .ok (.if_icmp .ne 28, 3) := by decide +kernel
theorem dX4_readOne_66 : decode cX4_readOne 66 = .ok (.iload_n 1, 1) := by decide +kernel
theorem dX4_readOne_67 : decode cX4_readOne 67 = .ok (.iconst 5, 1) := by decide +kernel
theorem dX4_readOne_68 : decode cX4_readOne 68 = .ok (.if_icmp .ge 23, 3) := by decide +kernel
theorem dX4_readOne_71 : decode cX4_readOne 71 = .ok (.aload_n 0, 1) := by decide +kernel
theorem dX4_readOne_72 : decode cX4_readOne 72 = .ok (.invokevirtual 43, 3) := by decide +kernel
theorem dX4_readOne_75 : decode cX4_readOne 75 = .ok (.aload_n 0, 1) := by decide +kernel
theorem dX4_readOne_76 : decode cX4_readOne 76 = .ok (.iload_n 1, 1) := by decide +kernel
theorem dX4_readOne_77 : decode cX4_readOne 77 = .ok (.iconst 1, 1) := by decide +kernel
theorem dX4_readOne_78 : decode cX4_readOne 78 = .ok (.iadd, 1) := by decide +kernel
theorem dX4_readOne_79 : decode cX4_readOne 79 = .ok (.invokevirtual 71, 3) := by decide +kernel
theorem dX4_readOne_82 : decode cX4_readOne 82 = .ok (.aload_n 0, 1) := by decide +kernel
theorem dX4_readOne_83 : decode cX4_readOne 83 = .ok (.bipush (-18), 2) := by decide +kernel
theorem dX4_readOne_85 : decode cX4_readOne 85 = .ok (.invokevirtual 59, 3) := by decide +kernel
theorem dX4_readOne_88 : decode cX4_readOne 88 = .ok (.goto 41, 3) := by decide +kernel
theorem dX4_readOne_91 : decode cX4_readOne 91 = .ok (.aload_n 0, 1) := by decide +kernel
theorem dX4_readOne_92 : decode cX4_readOne 92 = .ok (.getfield 30, 3) := by decide +kernel
theorem dX4_readOne_95 : decode cX4_readOne 95 = .ok (.bipush 40, 2) := by decide +kernel
theorem dX4_readOne_97 : decode cX4_readOne 97 = .ok (.if_icmp .ne 28, 3) := by decide +kernel
theorem dX4_readOne_100 : decode cX4_readOne 100 = .ok (.iload_n 1, 1) := by decide +kernel
theorem dX4_readOne_101 : decode cX4_readOne 101 = .ok (.iconst 5, 1) := by decide +kernel
theorem dX4_readOne_102 : decode cX4_readOne 102 = .ok (.if_icmp .ge 23, 3) := by decide +kernel
theorem dX4_readOne_105 : decode cX4_readOne 105 = .ok (.aload_n 0, 1) := by decide +kernel
theorem dX4_readOne_106 : decode cX4_readOne 106 = .ok (.invokevirtual 43, 3) := by decide +kernel
theorem dX4_readOne_109 : decode cX4_readOne 109 = .ok (.aload_n 0, 1) := by decide +kernel
theorem dX4_readOne_110 : decode cX4_readOne 110 = .ok (.iload_n 1, 1) := by decide +kernel
theorem dX4_readOne_111 : decode cX4_readOne 111 = .ok (.iconst 1, 1) := by decide +kernel
theorem dX4_readOne_112 : decode cX4_readOne 112 = .ok (.iadd, 1) := by decide +kernel
theorem dX4_readOne_113 : decode cX4_readOne 113 = .ok (.invokevirtual 50, 3) := by decide +kernel
theorem dX4_readOne_116 : decode cX4_readOne 116 = .ok (.aload_n 0, 1) := by decide +kernel
theorem dX4_readOne_117 : decode cX4_readOne 117 = .ok (.bipush 41, 2) := by decide +kernel
theorem dX4_readOne_119 : decode cX4_readOne 119 = .ok (.invokevirtual 46, 3) := by decide +kernel
theorem dX4_readOne_122 : decode cX4_readOne 122 = .ok (.goto 7, 3) := by decide +kernel
theorem dX4_readOne_125 : decode cX4_readOne 125 = .ok (.aload_n 0, 1) := by decide +kernel
theorem dX4_readOne_126 : decode cX4_readOne 126 = .ok (.invokevirtual 53, 3) := by decide +kernel
theorem dX4_readOne_129 : decode cX4_readOne 129 = .ok (.return_, 1) := by decide +kernel
theorem dX4_advance_0 : decode cX4_advance 0 = .ok (.aload_n 0, 1) := by decide +kernel
theorem dX4_advance_1 : decode cX4_advance 1 = .ok (.getfield 27, 3) := by decide +kernel
theorem dX4_advance_4 : decode cX4_advance 4 = .ok (.iconst (-1), 1) := by decide +kernel
theorem dX4_advance_5 : decode cX4_advance 5 = .ok (.if_icmp .eq 4, 3) := by decide +kernel
theorem dX4_advance_8 : decode cX4_advance 8 = .ok (.return_, 1) := by decide +kernel
theorem dX4_advance_9 : decode cX4_advance 9 = .ok (.iconst 0, 1) := by decide +kernel
theorem dX4_advance_10 : decode cX4_advance 10 = .ok (.istore_n 1, 1) := by decide +kernel
theorem dX4_advance_11 : decode cX4_advance 11 = .ok (.iload_n 1, 1) := by decide +kernel
theorem dX4_advance_12 : decode cX4_advance 12 = .ok (.sipush 160, 3) := by decide +kernel
theorem dX4_advance_15 : decode cX4_advance 15 = .ok (.if_icmp .ge 36, 3) := by decide +kernel
theorem dX4_advance_18 : decode cX4_advance 18 = .ok (.aload_n 0, 1) := by decide +kernel
theorem dX4_advance_19 : decode cX4_advance 19 = .ok (.getfield 39, 3) := by decide +kernel
theorem dX4_advance_22 : decode cX4_advance 22 = .ok (.aload_n 0, 1) := by decide +kernel
theorem dX4_advance_23 : decode cX4_advance 23 = .ok (.getfield 24, 3) := by decide +kernel
theorem dX4_advance_26 : decode cX4_advance 26 = .ok (.invokevirtual 74, 3) := by decide +kernel
theorem dX4_advance_29 : decode cX4_advance 29 = .ok (.invokestatic 80, 3) := by decide +kernel
theorem dX4_advance_32 : decode cX4_advance 32 = .ok (.ifCond .eq 19, 3) := by decide +kernel
theorem dX4_advance_35 : decode cX4_advance 35 = .ok (.aload_n 0, 1) := by decide +kernel
theorem dX4_advance_36 : decode cX4_advance 36 = .ok (.dup, 1) := by decide +kernel
theorem dX4_advance_37 : decode cX4_advance 37 = .ok (.getfield 24, 3) := by decide +kernel
theorem dX4_advance_40 : decode cX4_advance 40 = .ok (.iconst 1, 1) := by decide +kernel
theorem dX4_advance_41 : decode cX4_advance 41 = .ok (.iadd, 1) := by decide +kernel
theorem dX4_advance_42 : decode cX4_advance 42 = .ok (.putfield 24, 3) := by decide +kernel
theorem dX4_advance_45 : decode cX4_advance 45 = .ok (.iinc 1 1, 3) := by decide +kernel
theorem dX4_advance_48 : decode cX4_advance 48 = .ok (.goto (-37), 3) := by decide +kernel
theorem dX4_advance_51 : decode cX4_advance 51 = .ok (.aload_n 0, 1) := by decide +kernel
theorem dX4_advance_52 : decode cX4_advance 52 = .ok (.aload_n 0, 1) := by decide +kernel
theorem dX4_advance_53 : decode cX4_advance 53 = .ok (.getfield 24, 3) := by decide +kernel
theorem dX4_advance_56 : decode cX4_advance 56 = .ok (.putfield 33, 3) := by decide +kernel
theorem dX4_advance_59 : decode cX4_advance 59 = .ok (.aload_n 0, 1) := by decide +kernel
theorem dX4_advance_60 : decode cX4_advance 60 = .ok (.getfield 39, 3) := by decide +kernel
theorem dX4_advance_63 : decode cX4_advance 63 = .ok (.aload_n 0, 1) := by decide +kernel
theorem dX4_advance_64 : decode cX4_advance 64 = .ok (.getfield 24, 3) := by decide +kernel
theorem dX4_advance_67 : decode cX4_advance 67 = .ok (.invokevirtual 74, 3) := by decide +kernel
theorem dX4_advance_70 : decode cX4_advance 70 = .ok (.istore_n 1, 1) := by decide +kernel
theorem dX4_advance_71 : decode cX4_advance 71 = .ok (.iload_n 1, 1) := by decide +kernel
theorem dX4_advance_72 : decode cX4_advance 72 = .ok (.iconst (-1), 1) := by decide +kernel
theorem dX4_advance_73 : decode cX4_advance 73 = .ok (.if_icmp .ne 12, 3) := by decide +kernel
theorem dX4_advance_76 : decode cX4_advance 76 = .ok (.aload_n 0, 1) := by decide +kernel
theorem dX4_advance_77 : decode cX4_advance 77 = .ok (.bipush 13, 2) := by decide +kernel
theorem dX4_advance_79 : decode cX4_advance 79 = .ok (.putfield 30, 3) := by decide +kernel
theorem dX4_advance_82 : decode cX4_advance 82 = .ok (.goto 60, 3) := by decide +kernel
theorem dX4_advance_85 : decode cX4_advance 85 = .ok (.iload_n 1, 1) := by decide +kernel
theorem dX4_advance_86 : decode cX4_advance 86 = .ok (.invokestatic 84, 3) := by decide +kernel
theorem dX4_advance_89 : decode cX4_advance 89 = .ok (.ifCond .eq 10, 3) := by decide +kernel
theorem dX4_advance_92 : decode cX4_advance 92 = .ok (.aload_n 0, 1) := by decide +kernel
theorem dX4_advance_93 : decode cX4_advance 93 = .ok (.invokevirtual 87, 3) := by decide +kernel
theorem dX4_advance_96 : decode cX4_advance 96 = .ok (.goto 46, 3) := by decide +kernel
theorem dX4_advance_99 : decode cX4_advance 99 = .ok (.iload_n 1, 1) := by decide +kernel
theorem dX4_advance_100 : decode cX4_advance 100 = .ok (.invokestatic 90, 3) := by decide +kernel
theorem dX4_advance_103 : decode cX4_advance 103 = .ok (.ifCond .eq 10, 3) := by decide +kernel
theorem dX4_advance_106 : decode cX4_advance 106 = .ok (.aload_n 0, 1) := by decide +kernel
theorem dX4_advance_107 : decode cX4_advance 107 = .ok (.invokevirtual 93, 3) := by decide +kernel
theorem dX4_advance_110 : decode cX4_advance 110 = .ok (.goto 32, 3) := by decide +kernel
theorem dX4_advance_113 : decode cX4_advance 113 = .ok (.iload_n 1, 1) := by decide +kernel
theorem dX4_advance_114 : decode cX4_advance 114 = .ok (.invokestatic 96, 3) := by decide +kernel
theorem dX4_advance_117 : decode cX4_advance 117 = .ok (.ifCond .eq 21, 3) := by decide +kernel
theorem dX4_advance_120 : decode cX4_advance 120 = .ok (.aload_n 0, 1) := by decide +kernel
theorem dX4_advance_121 : decode cX4_advance 121 = .ok (.iload_n 1, 1) := by decide +kernel
theorem dX4_advance_122 : decode cX4_advance 122 = .ok (.putfield 30, 3) := by decide +kernel
theorem dX4_advance_125 : decode cX4_advance 125 = .ok (.aload_n 0, 1) := by decide +kernel
theorem dX4_advance_126 : decode cX4_advance 126 = .ok (.dup, 1) := by decide +kernel
theorem dX4_advance_127 : decode cX4_advance 127 = .ok (.getfield 24, 3) := by decide +kernel
theorem dX4_advance_130 : decode cX4_advance 130 = .ok (.iconst 1, 1) := by decide +kernel
theorem dX4_advance_131 : decode cX4_advance 131 = .ok (.iadd, 1) := by decide +kernel
theorem dX4_advance_132 : decode cX4_advance 132 = .ok (.putfield 24, 3) := by decide +kernel
theorem dX4_advance_135 : decode cX4_advance 135 = .ok (.goto 7, 3) := by decide +kernel
theorem dX4_advance_138 : decode cX4_advance 138 = .ok (.aload_n 0, 1) := by decide +kernel
theorem dX4_advance_139 : decode cX4_advance 139 = .ok (.invokevirtual 53, 3) := by decide +kernel
theorem dX4_advance_142 : decode cX4_advance 142 = .ok (.return_, 1) := by decide +kernel
theorem dX4_takeWord_0 : decode cX4_takeWord 0 = .ok (.iconst 0, 1) := by decide +kernel
theorem dX4_takeWord_1 : decode cX4_takeWord 1 = .ok (.istore_n 1, 1) := by decide +kernel
theorem dX4_takeWord_2 : decode cX4_takeWord 2 = .ok (.iload_n 1, 1) := by decide +kernel
theorem dX4_takeWord_3 : decode cX4_takeWord 3 = .ok (.sipush 160, 3) := by decide +kernel
theorem dX4_takeWord_6 : decode cX4_takeWord 6 = .ok (.if_icmp .ge 36, 3) := by decide +kernel
theorem dX4_takeWord_9 : decode cX4_takeWord 9 = .ok (.aload_n 0, 1) := by decide +kernel
theorem dX4_takeWord_10 : decode cX4_takeWord 10 = .ok (.getfield 39, 3) := by decide +kernel
theorem dX4_takeWord_13 : decode cX4_takeWord 13 = .ok (.aload_n 0, 1) := by decide +kernel
theorem dX4_takeWord_14 : decode cX4_takeWord 14 = .ok (.getfield 24, 3) := by decide +kernel
theorem dX4_takeWord_17 : decode cX4_takeWord 17 = .ok (.invokevirtual 74, 3) := by decide +kernel
theorem dX4_takeWord_20 : decode cX4_takeWord 20 = .ok (.invokestatic 84, 3) := by decide +kernel
theorem dX4_takeWord_23 : decode cX4_takeWord 23 = .ok (.ifCond .eq 19, 3) := by decide +kernel
theorem dX4_takeWord_26 : decode cX4_takeWord 26 = .ok (.aload_n 0, 1) := by decide +kernel
theorem dX4_takeWord_27 : decode cX4_takeWord 27 = .ok (.dup, 1) := by decide +kernel
theorem dX4_takeWord_28 : decode cX4_takeWord 28 = .ok (.getfield 24, 3) := by decide +kernel
theorem dX4_takeWord_31 : decode cX4_takeWord 31 = .ok (.iconst 1, 1) := by decide +kernel
theorem dX4_takeWord_32 : decode cX4_takeWord 32 = .ok (.iadd, 1) := by decide +kernel
theorem dX4_takeWord_33 : decode cX4_takeWord 33 = .ok (.putfield 24, 3) := by decide +kernel
theorem dX4_takeWord_36 : decode cX4_takeWord 36 = .ok (.iinc 1 1, 3) := by decide +kernel
theorem dX4_takeWord_39 : decode cX4_takeWord 39 = .ok (.goto (-37), 3) := by decide +kernel
theorem dX4_takeWord_42 : decode cX4_takeWord 42 = .ok (.iconst 0, 1) := by decide +kernel
theorem dX4_takeWord_43 : decode cX4_takeWord 43 = .ok (.istore_n 1, 1) := by decide +kernel
theorem dX4_takeWord_44 : decode cX4_takeWord 44 = .ok (.iconst 0, 1) := by decide +kernel
theorem dX4_takeWord_45 : decode cX4_takeWord 45 = .ok (.istore_n 2, 1) := by decide +kernel
theorem dX4_takeWord_46 : decode cX4_takeWord 46 = .ok (.iconst 0, 1) := by decide +kernel
theorem dX4_takeWord_47 : decode cX4_takeWord 47 = .ok (.istore_n 3, 1) := by decide +kernel
theorem dX4_takeWord_48 : decode cX4_takeWord 48 = .ok (.iload_n 3, 1) := by decide +kernel
theorem dX4_takeWord_49 : decode cX4_takeWord 49 = .ok (.ldc 99, 2) := by decide +kernel
theorem dX4_takeWord_51 : decode cX4_takeWord 51 = .ok (.invokevirtual 101, 3) := by decide +kernel
theorem dX4_takeWord_54 : decode cX4_takeWord 54 = .ok (.if_icmp .ge 42, 3) := by decide +kernel
theorem dX4_takeWord_57 : decode cX4_takeWord 57 = .ok (.ldc 99, 2) := by decide +kernel
theorem dX4_takeWord_59 : decode cX4_takeWord 59 = .ok (.iload_n 3, 1) := by decide +kernel
theorem dX4_takeWord_60 : decode cX4_takeWord 60 = .ok (.invokevirtual 107, 3) := by decide +kernel
theorem dX4_takeWord_63 : decode cX4_takeWord 63 = .ok (.bipush 32, 2) := by decide +kernel
theorem dX4_takeWord_65 : decode cX4_takeWord 65 = .ok (.if_icmp .ne 25, 3) := by decide +kernel
theorem dX4_takeWord_68 : decode cX4_takeWord 68 = .ok (.aload_n 0, 1) := by decide +kernel
theorem dX4_takeWord_69 : decode cX4_takeWord 69 = .ok (.iload_n 2, 1) := by decide +kernel
theorem dX4_takeWord_70 : decode cX4_takeWord 70 = .ok (.iload_n 3, 1) := by decide +kernel
theorem dX4_takeWord_71 : decode cX4_takeWord 71 = .ok (.invokevirtual 111, 3) := by decide +kernel
theorem dX4_takeWord_74 : decode cX4_takeWord 74 = .ok (.ifCond .eq 9, 3) := by decide +kernel
theorem dX4_takeWord_77 : decode cX4_takeWord 77 = .ok (.aload_n 0, 1) := by decide +kernel
theorem dX4_takeWord_78 : decode cX4_takeWord 78 = .ok (.iload_n 1, 1) := by decide +kernel
theorem dX4_takeWord_79 : decode cX4_takeWord 79 = .ok (.putfield 30, 3) := by decide +kernel
theorem dX4_takeWord_82 : decode cX4_takeWord 82 = .ok (.return_, 1) := by decide +kernel
theorem dX4_takeWord_83 : decode cX4_takeWord 83 = .ok (.iinc 1 1, 3) := by decide +kernel
theorem dX4_takeWord_86 : decode cX4_takeWord 86 = .ok (.iload_n 3, 1) := by decide +kernel
theorem dX4_takeWord_87 : decode cX4_takeWord 87 = .ok (.iconst 1, 1) := by decide +kernel
theorem dX4_takeWord_88 : decode cX4_takeWord 88 = .ok (.iadd, 1) := by decide +kernel
theorem dX4_takeWord_89 : decode cX4_takeWord 89 = .ok (.istore_n 2, 1) := by decide +kernel
theorem dX4_takeWord_90 : decode cX4_takeWord 90 = .ok (.iinc 3 1, 3) := by decide +kernel
theorem dX4_takeWord_93 : decode cX4_takeWord 93 = .ok (.goto (-45), 3) := by decide +kernel
theorem dX4_takeWord_96 : decode cX4_takeWord 96 = .ok (.aload_n 0, 1) := by decide +kernel
theorem dX4_takeWord_97 : decode cX4_takeWord 97 = .ok (.invokevirtual 53, 3) := by decide +kernel
theorem dX4_takeWord_100 : decode cX4_takeWord 100 = .ok (.return_, 1) := by decide +kernel
theorem dX4_takeNumber_0 : decode cX4_takeNumber 0 = .ok (.aload_n 0, 1) := by decide +kernel
theorem dX4_takeNumber_1 : decode cX4_takeNumber 1 = .ok (.iconst 0, 1) := by decide +kernel
theorem dX4_takeNumber_2 : decode cX4_takeNumber 2 = .ok (.putfield 36, 3) := by decide +kernel
theorem dX4_takeNumber_5 : decode cX4_takeNumber 5 = .ok (.iconst 0, 1) := by decide +kernel
theorem dX4_takeNumber_6 : decode cX4_takeNumber 6 = .ok (.istore_n 1, 1) := by decide +kernel
theorem dX4_takeNumber_7 : decode cX4_takeNumber 7 = .ok (.iload_n 1, 1) := by decide +kernel
theorem dX4_takeNumber_8 : decode cX4_takeNumber 8 = .ok (.sipush 160, 3) := by decide +kernel
theorem dX4_takeNumber_11 : decode cX4_takeNumber 11 = .ok (.if_icmp .ge 62, 3) := by decide +kernel
theorem dX4_takeNumber_14 : decode cX4_takeNumber 14 = .ok (.aload_n 0, 1) := by decide +kernel
theorem dX4_takeNumber_15 : decode cX4_takeNumber 15 = .ok (.getfield 39, 3) := by decide +kernel
theorem dX4_takeNumber_18 : decode cX4_takeNumber 18 = .ok (.aload_n 0, 1) := by decide +kernel
theorem dX4_takeNumber_19 : decode cX4_takeNumber 19 = .ok (.getfield 24, 3) := by decide +kernel
theorem dX4_takeNumber_22 : decode cX4_takeNumber 22 = .ok (.invokevirtual 74, 3) := by decide +kernel
theorem dX4_takeNumber_25 : decode cX4_takeNumber 25 = .ok (.invokestatic 90, 3) := by decide +kernel
theorem dX4_takeNumber_28 : decode cX4_takeNumber 28 = .ok (.ifCond .eq 45, 3) := by decide +kernel
theorem dX4_takeNumber_31 : decode cX4_takeNumber 31 = .ok (.aload_n 0, 1) := by decide +kernel
theorem dX4_takeNumber_32 : decode cX4_takeNumber 32 = .ok (.aload_n 0, 1) := by decide +kernel
theorem dX4_takeNumber_33 : decode cX4_takeNumber 33 = .ok (.getfield 36, 3) := by decide +kernel
theorem dX4_takeNumber_36 : decode cX4_takeNumber 36 = .ok (.bipush 10, 2) := by decide +kernel
theorem dX4_takeNumber_38 : decode cX4_takeNumber 38 = .ok (.imul, 1) := by decide +kernel
theorem dX4_takeNumber_39 : decode cX4_takeNumber 39 = .ok (.aload_n 0, 1) := by decide +kernel
theorem dX4_takeNumber_40 : decode cX4_takeNumber 40 = .ok (.getfield 39, 3) := by decide +kernel
theorem dX4_takeNumber_43 : decode cX4_takeNumber 43 = .ok (.aload_n 0, 1) := by decide +kernel
theorem dX4_takeNumber_44 : decode cX4_takeNumber 44 = .ok (.getfield 24, 3) := by decide +kernel
theorem dX4_takeNumber_47 : decode cX4_takeNumber 47 = .ok (.invokevirtual 74, 3) := by decide +kernel
theorem dX4_takeNumber_50 : decode cX4_takeNumber 50 = .ok (.iadd, 1) := by decide +kernel
theorem dX4_takeNumber_51 : decode cX4_takeNumber 51 = .ok (.bipush 48, 2) := by decide +kernel
theorem dX4_takeNumber_53 : decode cX4_takeNumber 53 = .ok (.isub, 1) := by decide +kernel
theorem dX4_takeNumber_54 : decode cX4_takeNumber 54 = .ok (.putfield 36, 3) := by decide +kernel
theorem dX4_takeNumber_57 : decode cX4_takeNumber 57 = .ok (.aload_n 0, 1) := by decide +kernel
theorem dX4_takeNumber_58 : decode cX4_takeNumber 58 = .ok (.dup, 1) := by decide +kernel
theorem dX4_takeNumber_59 : decode cX4_takeNumber 59 = .ok (.getfield 24, 3) := by decide +kernel
theorem dX4_takeNumber_62 : decode cX4_takeNumber 62 = .ok (.iconst 1, 1) := by decide +kernel
theorem dX4_takeNumber_63 : decode cX4_takeNumber 63 = .ok (.iadd, 1) := by decide +kernel
theorem dX4_takeNumber_64 : decode cX4_takeNumber 64 = .ok (.putfield 24, 3) := by decide +kernel
theorem dX4_takeNumber_67 : decode cX4_takeNumber 67 = .ok (.iinc 1 1, 3) := by decide +kernel
theorem dX4_takeNumber_70 : decode cX4_takeNumber 70 = .ok (.goto (-63), 3) := by decide +kernel
theorem dX4_takeNumber_73 : decode cX4_takeNumber 73 = .ok (.aload_n 0, 1) := by decide +kernel
theorem dX4_takeNumber_74 : decode cX4_takeNumber 74 = .ok (.bipush 12, 2) := by decide +kernel
theorem dX4_takeNumber_76 : decode cX4_takeNumber 76 = .ok (.putfield 30, 3) := by decide +kernel
theorem dX4_takeNumber_79 : decode cX4_takeNumber 79 = .ok (.aload_n 0, 1) := by decide +kernel
theorem dX4_takeNumber_80 : decode cX4_takeNumber 80 = .ok (.getfield 24, 3) := by decide +kernel
theorem dX4_takeNumber_83 : decode cX4_takeNumber 83 = .ok (.aload_n 0, 1) := by decide +kernel
theorem dX4_takeNumber_84 : decode cX4_takeNumber 84 = .ok (.getfield 33, 3) := by decide +kernel
theorem dX4_takeNumber_87 : decode cX4_takeNumber 87 = .ok (.isub, 1) := by decide +kernel
theorem dX4_takeNumber_88 : decode cX4_takeNumber 88 = .ok (.iconst 4, 1) := by decide +kernel
theorem dX4_takeNumber_89 : decode cX4_takeNumber 89 = .ok (.if_icmp .le 7, 3) := by decide +kernel
theorem dX4_takeNumber_92 : decode cX4_takeNumber 92 = .ok (.aload_n 0, 1) := by decide +kernel
theorem dX4_takeNumber_93 : decode cX4_takeNumber 93 = .ok (.invokevirtual 53, 3) := by decide +kernel
theorem dX4_takeNumber_96 : decode cX4_takeNumber 96 = .ok (.return_, 1) := by decide +kernel
theorem dX4_standsAtStart_0 : decode cX4_standsAtStart 0 = .ok (.iload_n 2, 1) := by decide +kernel
theorem dX4_standsAtStart_1 : decode cX4_standsAtStart 1 = .ok (.iload_n 1, 1) := by decide +kernel
theorem dX4_standsAtStart_2 : decode cX4_standsAtStart 2 = .ok (.isub, 1) := by decide +kernel
theorem dX4_standsAtStart_3 : decode cX4_standsAtStart 3 = .ok (.aload_n 0, 1) := by decide +kernel
theorem dX4_standsAtStart_4 : decode cX4_standsAtStart 4 = .ok (.getfield 24, 3) := by decide +kernel
theorem dX4_standsAtStart_7 : decode cX4_standsAtStart 7 = .ok (.aload_n 0, 1) := by decide +kernel
theorem dX4_standsAtStart_8 : decode cX4_standsAtStart 8 = .ok (.getfield 33, 3) := by decide +kernel
theorem dX4_standsAtStart_11 : decode cX4_standsAtStart 11 = .ok (.isub, 1) := by decide +kernel
theorem dX4_standsAtStart_12 : decode cX4_standsAtStart 12 = .ok (.if_icmp .eq 5, 3) := by decide +kernel
theorem dX4_standsAtStart_15 : decode cX4_standsAtStart 15 = .ok (.iconst 0, 1) := by decide +kernel
theorem dX4_standsAtStart_16 : decode cX4_standsAtStart 16 = .ok (.ireturn, 1) := by decide +kernel
theorem dX4_standsAtStart_17 : decode cX4_standsAtStart 17 = .ok (.iload_n 1, 1) := by decide +kernel
theorem dX4_standsAtStart_18 : decode cX4_standsAtStart 18 = .ok (.istore_n 3, 1) := by decide +kernel
theorem dX4_standsAtStart_19 : decode cX4_standsAtStart 19 = .ok (.iload_n 3, 1) := by decide +kernel
theorem dX4_standsAtStart_20 : decode cX4_standsAtStart 20 = .ok (.ifCond .lt 49, 3) := by decide +kernel
theorem dX4_standsAtStart_23 : decode cX4_standsAtStart 23 = .ok (.iload_n 3, 1) := by decide +kernel
theorem dX4_standsAtStart_24 : decode cX4_standsAtStart 24 = .ok (.iload_n 2, 1) := by decide +kernel
theorem dX4_standsAtStart_25 : decode cX4_standsAtStart 25 = .ok (.if_icmp .ge 44, 3) := by decide +kernel
theorem dX4_standsAtStart_28 : decode cX4_standsAtStart 28 = .ok (.iload_n 3, 1) := by decide +kernel
theorem dX4_standsAtStart_29 : decode cX4_standsAtStart 29 = .ok (.ldc 99, 2) := by decide +kernel
theorem dX4_standsAtStart_31 : decode cX4_standsAtStart 31 = .ok (.invokevirtual 101, 3) := by decide +kernel
theorem dX4_standsAtStart_34 : decode cX4_standsAtStart 34 = .ok (.if_icmp .ge 35, 3) := by decide +kernel
theorem dX4_standsAtStart_37 : decode cX4_standsAtStart 37 = .ok (.ldc 99, 2) := by decide +kernel
theorem dX4_standsAtStart_39 : decode cX4_standsAtStart 39 = .ok (.iload_n 3, 1) := by decide +kernel
theorem dX4_standsAtStart_40 : decode cX4_standsAtStart 40 = .ok (.invokevirtual 107, 3) := by decide +kernel
theorem dX4_standsAtStart_43 : decode cX4_standsAtStart 43 = .ok (.aload_n 0, 1) := by decide +kernel
theorem dX4_standsAtStart_44 : decode cX4_standsAtStart 44 = .ok (.getfield 39, 3) := by decide +kernel
theorem dX4_standsAtStart_47 : decode cX4_standsAtStart 47 = .ok (.aload_n 0, 1) := by decide +kernel
theorem dX4_standsAtStart_48 : decode cX4_standsAtStart 48 = .ok (.getfield 33, 3) := by decide +kernel
theorem dX4_standsAtStart_51 : decode cX4_standsAtStart 51 = .ok (.iload_n 3, 1) := by decide +kernel
theorem dX4_standsAtStart_52 : decode cX4_standsAtStart 52 = .ok (.iadd, 1) := by decide +kernel
theorem dX4_standsAtStart_53 : decode cX4_standsAtStart 53 = .ok (.iload_n 1, 1) := by decide +kernel
theorem dX4_standsAtStart_54 : decode cX4_standsAtStart 54 = .ok (.isub, 1) := by decide +kernel
theorem dX4_standsAtStart_55 : decode cX4_standsAtStart 55 = .ok (.invokevirtual 74, 3) := by decide +kernel
theorem dX4_standsAtStart_58 : decode cX4_standsAtStart 58 = .ok (.if_icmp .eq 5, 3) := by decide +kernel
theorem dX4_standsAtStart_61 : decode cX4_standsAtStart 61 = .ok (.iconst 0, 1) := by decide +kernel
theorem dX4_standsAtStart_62 : decode cX4_standsAtStart 62 = .ok (.ireturn, 1) := by decide +kernel
theorem dX4_standsAtStart_63 : decode cX4_standsAtStart 63 = .ok (.iinc 3 1, 3) := by decide +kernel
theorem dX4_standsAtStart_66 : decode cX4_standsAtStart 66 = .ok (.goto (-47), 3) := by decide +kernel
theorem dX4_standsAtStart_69 : decode cX4_standsAtStart 69 = .ok (.iconst 1, 1) := by decide +kernel
theorem dX4_standsAtStart_70 : decode cX4_standsAtStart 70 = .ok (.ireturn, 1) := by decide +kernel
theorem dX4_isBlank_0 : decode cX4_isBlank 0 = .ok (.iload_n 0, 1) := by decide +kernel
theorem dX4_isBlank_1 : decode cX4_isBlank 1 = .ok (.bipush 32, 2) := by decide +kernel
theorem dX4_isBlank_3 : decode cX4_isBlank 3 = .ok (.if_icmp .eq 9, 3) := by decide +kernel
theorem dX4_isBlank_6 : decode cX4_isBlank 6 = .ok (.iload_n 0, 1) := by decide +kernel
theorem dX4_isBlank_7 : decode cX4_isBlank 7 = .ok (.bipush 10, 2) := by decide +kernel
theorem dX4_isBlank_9 : decode cX4_isBlank 9 = .ok (.if_icmp .ne 7, 3) := by decide +kernel
theorem dX4_isBlank_12 : decode cX4_isBlank 12 = .ok (.iconst 1, 1) := by decide +kernel
theorem dX4_isBlank_13 : decode cX4_isBlank 13 = .ok (.goto 4, 3) := by decide +kernel
theorem dX4_isBlank_16 : decode cX4_isBlank 16 = .ok (.iconst 0, 1) := by decide +kernel
theorem dX4_isBlank_17 : decode cX4_isBlank 17 = .ok (.ireturn, 1) := by decide +kernel
theorem dX4_isLetter_0 : decode cX4_isLetter 0 = .ok (.iload_n 0, 1) := by decide +kernel
theorem dX4_isLetter_1 : decode cX4_isLetter 1 = .ok (.bipush 97, 2) := by decide +kernel
theorem dX4_isLetter_3 : decode cX4_isLetter 3 = .ok (.if_icmp .lt 13, 3) := by decide +kernel
theorem dX4_isLetter_6 : decode cX4_isLetter 6 = .ok (.iload_n 0, 1) := by decide +kernel
theorem dX4_isLetter_7 : decode cX4_isLetter 7 = .ok (.bipush 122, 2) := by decide +kernel
theorem dX4_isLetter_9 : decode cX4_isLetter 9 = .ok (.if_icmp .gt 7, 3) := by decide +kernel
theorem dX4_isLetter_12 : decode cX4_isLetter 12 = .ok (.iconst 1, 1) := by decide +kernel
theorem dX4_isLetter_13 : decode cX4_isLetter 13 = .ok (.goto 4, 3) := by decide +kernel
theorem dX4_isLetter_16 : decode cX4_isLetter 16 = .ok (.iconst 0, 1) := by decide +kernel
theorem dX4_isLetter_17 : decode cX4_isLetter 17 = .ok (.ireturn, 1) := by decide +kernel
theorem dX4_isDigit_0 : decode cX4_isDigit 0 = .ok (.iload_n 0, 1) := by decide +kernel
theorem dX4_isDigit_1 : decode cX4_isDigit 1 = .ok (.bipush 48, 2) := by decide +kernel
theorem dX4_isDigit_3 : decode cX4_isDigit 3 = .ok (.if_icmp .lt 13, 3) := by decide +kernel
theorem dX4_isDigit_6 : decode cX4_isDigit 6 = .ok (.iload_n 0, 1) := by decide +kernel
theorem dX4_isDigit_7 : decode cX4_isDigit 7 = .ok (.bipush 57, 2) := by decide +kernel
theorem dX4_isDigit_9 : decode cX4_isDigit 9 = .ok (.if_icmp .gt 7, 3) := by decide +kernel
theorem dX4_isDigit_12 : decode cX4_isDigit 12 = .ok (.iconst 1, 1) := by decide +kernel
theorem dX4_isDigit_13 : decode cX4_isDigit 13 = .ok (.goto 4, 3) := by decide +kernel
theorem dX4_isDigit_16 : decode cX4_isDigit 16 = .ok (.iconst 0, 1) := by decide +kernel
theorem dX4_isDigit_17 : decode cX4_isDigit 17 = .ok (.ireturn, 1) := by decide +kernel
theorem dX4_isSign_0 : decode cX4_isSign 0 = .ok (.iload_n 0, 1) := by decide +kernel
theorem dX4_isSign_1 : decode cX4_isSign 1 = .ok (.tableswitch 105 40 61 #[103, 103, 103, 103, 105, 103, 105, 105, 105, 105, 105, 105, 105, 105, 105, 105, 105, 105, 105, 103, 103, 103], 103) := by decide +kernel
theorem dX4_isSign_104 : decode cX4_isSign 104 = .ok (.iconst 1, 1) := by decide +kernel
theorem dX4_isSign_105 : decode cX4_isSign 105 = .ok (.ireturn, 1) := by decide +kernel
theorem dX4_isSign_106 : decode cX4_isSign 106 = .ok (.iconst 0, 1) := by decide +kernel
theorem dX4_isSign_107 : decode cX4_isSign 107 = .ok (.ireturn, 1) := by decide +kernel
theorem dX5_init_0 : decode cX5_init 0 = .ok (.aload_n 0, 1) := by decide +kernel
theorem dX5_init_1 : decode cX5_init 1 = .ok (.invokespecial 1, 3) := by decide +kernel
theorem dX5_init_4 : decode cX5_init 4 = .ok (.aload_n 0, 1) := by decide +kernel
theorem dX5_init_5 : decode cX5_init 5 = .ok (.iconst 4, 1) := by decide +kernel
theorem dX5_init_6 : decode cX5_init 6 = .ok (.newarray .int, 2) := by decide +kernel
theorem dX5_init_8 : decode cX5_init 8 = .ok (.dup, 1) := by decide +kernel
theorem dX5_init_9 : decode cX5_init 9 = .ok (.iconst 0, 1) := by decide +kernel
theorem dX5_init_10 : decode cX5_init 10 = .ok (.iconst (-1), 1) := by decide +kernel
theorem dX5_init_11 : decode cX5_init 11 = .ok (.iastore, 1) := by decide +kernel
theorem dX5_init_12 : decode cX5_init 12 = .ok (.dup, 1) := by decide +kernel
theorem dX5_init_13 : decode cX5_init 13 = .ok (.iconst 1, 1) := by decide +kernel
theorem dX5_init_14 : decode cX5_init 14 = .ok (.iconst (-1), 1) := by decide +kernel
theorem dX5_init_15 : decode cX5_init 15 = .ok (.iastore, 1) := by decide +kernel
theorem dX5_init_16 : decode cX5_init 16 = .ok (.dup, 1) := by decide +kernel
theorem dX5_init_17 : decode cX5_init 17 = .ok (.iconst 2, 1) := by decide +kernel
theorem dX5_init_18 : decode cX5_init 18 = .ok (.iconst (-1), 1) := by decide +kernel
theorem dX5_init_19 : decode cX5_init 19 = .ok (.iastore, 1) := by decide +kernel
theorem dX5_init_20 : decode cX5_init 20 = .ok (.dup, 1) := by decide +kernel
theorem dX5_init_21 : decode cX5_init 21 = .ok (.iconst 3, 1) := by decide +kernel
theorem dX5_init_22 : decode cX5_init 22 = .ok (.iconst (-1), 1) := by decide +kernel
theorem dX5_init_23 : decode cX5_init 23 = .ok (.iastore, 1) := by decide +kernel
theorem dX5_init_24 : decode cX5_init 24 = .ok (.putfield 9, 3) := by decide +kernel
theorem dX5_init_27 : decode cX5_init 27 = .ok (.aload_n 0, 1) := by decide +kernel
theorem dX5_init_28 : decode cX5_init 28 = .ok (.iconst 4, 1) := by decide +kernel
theorem dX5_init_29 : decode cX5_init 29 = .ok (.newarray .int, 2) := by decide +kernel
theorem dX5_init_31 : decode cX5_init 31 = .ok (.putfield 13, 3) := by decide +kernel
theorem dX5_init_34 : decode cX5_init 34 = .ok (.aload_n 0, 1) := by decide +kernel
theorem dX5_init_35 : decode cX5_init 35 = .ok (.iconst 4, 1) := by decide +kernel
theorem dX5_init_36 : decode cX5_init 36 = .ok (.bipush 40, 2) := by decide +kernel
theorem dX5_init_38 : decode cX5_init 38 = .ok (.multianewarray 16 2, 4) := by decide +kernel
theorem dX5_init_42 : decode cX5_init 42 = .ok (.putfield 18, 3) := by decide +kernel
theorem dX5_init_45 : decode cX5_init 45 = .ok (.return_, 1) := by decide +kernel
theorem dX5_isNumber_0 : decode cX5_isNumber 0 = .ok (.iload_n 0, 1) := by decide +kernel
theorem dX5_isNumber_1 : decode cX5_isNumber 1 = .ok (.ifCond .lt 12, 3) := by decide +kernel
theorem dX5_isNumber_4 : decode cX5_isNumber 4 = .ok (.iload_n 0, 1) := by decide +kernel
theorem dX5_isNumber_5 : decode cX5_isNumber 5 = .ok (.iconst 4, 1) := by decide +kernel
theorem dX5_isNumber_6 : decode cX5_isNumber 6 = .ok (.if_icmp .ge 7, 3) := by decide +kernel
theorem dX5_isNumber_9 : decode cX5_isNumber 9 = .ok (.iconst 1, 1) := by decide +kernel
theorem dX5_isNumber_10 : decode cX5_isNumber 10 = .ok (.goto 4, 3) := by decide +kernel
theorem dX5_isNumber_13 : decode cX5_isNumber 13 = .ok (.iconst 0, 1) := by decide +kernel
theorem dX5_isNumber_14 : decode cX5_isNumber 14 = .ok (.ireturn, 1) := by decide +kernel
theorem dX5_isSort_0 : decode cX5_isSort 0 = .ok (.iload_n 0, 1) := by decide +kernel
theorem dX5_isSort_1 : decode cX5_isSort 1 = .ok (.ifCond .lt 12, 3) := by decide +kernel
theorem dX5_isSort_4 : decode cX5_isSort 4 = .ok (.iload_n 0, 1) := by decide +kernel
theorem dX5_isSort_5 : decode cX5_isSort 5 = .ok (.iconst 2, 1) := by decide +kernel
theorem dX5_isSort_6 : decode cX5_isSort 6 = .ok (.if_icmp .gt 7, 3) := by decide +kernel
theorem dX5_isSort_9 : decode cX5_isSort 9 = .ok (.iconst 1, 1) := by decide +kernel
theorem dX5_isSort_10 : decode cX5_isSort 10 = .ok (.goto 4, 3) := by decide +kernel
theorem dX5_isSort_13 : decode cX5_isSort 13 = .ok (.iconst 0, 1) := by decide +kernel
theorem dX5_isSort_14 : decode cX5_isSort 14 = .ok (.ireturn, 1) := by decide +kernel
theorem dX5_isMissing_0 : decode cX5_isMissing 0 = .ok (.iload_n 1, 1) := by decide +kernel
theorem dX5_isMissing_1 : decode cX5_isMissing 1 = .ok (.invokestatic 21, 3) := by decide +kernel
theorem dX5_isMissing_4 : decode cX5_isMissing 4 = .ok (.ifCond .eq 13, 3) := by decide +kernel
theorem dX5_isMissing_7 : decode cX5_isMissing 7 = .ok (.aload_n 0, 1) := by decide +kernel
theorem dX5_isMissing_8 : decode cX5_isMissing 8 = .ok (.getfield 9, 3) := by decide +kernel
theorem dX5_isMissing_11 : decode cX5_isMissing 11 = .ok (.iload_n 1, 1) := by decide +kernel
theorem dX5_isMissing_12 : decode cX5_isMissing 12 = .ok (.iaload, 1) := by decide +kernel
theorem dX5_isMissing_13 : decode cX5_isMissing 13 = .ok (.iconst (-1), 1) := by decide +kernel
theorem dX5_isMissing_14 : decode cX5_isMissing 14 = .ok (.if_icmp .ne 7, 3) := by decide +kernel
theorem dX5_isMissing_17 : decode cX5_isMissing 17 = .ok (.iconst 1, 1) := by decide +kernel
theorem dX5_isMissing_18 : decode cX5_isMissing 18 = .ok (.goto 4, 3) := by decide +kernel
theorem dX5_isMissing_21 : decode cX5_isMissing 21 = .ok (.iconst 0, 1) := by decide +kernel
theorem dX5_isMissing_22 : decode cX5_isMissing 22 = .ok (.ireturn, 1) := by decide +kernel
theorem dX5_hasItem_0 : decode cX5_hasItem 0 = .ok (.iload_n 1, 1) := by decide +kernel
theorem dX5_hasItem_1 : decode cX5_hasItem 1 = .ok (.invokestatic 21, 3) := by decide +kernel
theorem dX5_hasItem_4 : decode cX5_hasItem 4 = .ok (.ifCond .eq 27, 3) := by decide +kernel
theorem dX5_hasItem_7 : decode cX5_hasItem 7 = .ok (.iload_n 2, 1) := by decide +kernel
theorem dX5_hasItem_8 : decode cX5_hasItem 8 = .ok (.ifCond .lt 23, 3) := by decide +kernel
theorem dX5_hasItem_11 : decode cX5_hasItem 11 = .ok (.iload_n 2, 1) := by decide +kernel
theorem dX5_hasItem_12 : decode cX5_hasItem 12 = .ok (.aload_n 0, 1) := by decide +kernel
theorem dX5_hasItem_13 : decode cX5_hasItem 13 = .ok (.getfield 13, 3) := by decide +kernel
theorem dX5_hasItem_16 : decode cX5_hasItem 16 = .ok (.iload_n 1, 1) := by decide +kernel
theorem dX5_hasItem_17 : decode cX5_hasItem 17 = .ok (.iaload, 1) := by decide +kernel
theorem dX5_hasItem_18 : decode cX5_hasItem 18 = .ok (.if_icmp .ge 13, 3) := by decide +kernel
theorem dX5_hasItem_21 : decode cX5_hasItem 21 = .ok (.iload_n 2, 1) := by decide +kernel
theorem dX5_hasItem_22 : decode cX5_hasItem 22 = .ok (.bipush 40, 2) := by decide +kernel
theorem dX5_hasItem_24 : decode cX5_hasItem 24 = .ok (.if_icmp .ge 7, 3) := by decide +kernel
theorem dX5_hasItem_27 : decode cX5_hasItem 27 = .ok (.iconst 1, 1) := by decide +kernel
theorem dX5_hasItem_28 : decode cX5_hasItem 28 = .ok (.goto 4, 3) := by decide +kernel
theorem dX5_hasItem_31 : decode cX5_hasItem 31 = .ok (.iconst 0, 1) := by decide +kernel
theorem dX5_hasItem_32 : decode cX5_hasItem 32 = .ok (.ireturn, 1) := by decide +kernel
theorem dX5_hasItems_0 : decode cX5_hasItems 0 = .ok (.iload_n 1, 1) := by decide +kernel
theorem dX5_hasItems_1 : decode cX5_hasItems 1 = .ok (.invokestatic 21, 3) := by decide +kernel
theorem dX5_hasItems_4 : decode cX5_hasItems 4 = .ok (.ifCond .eq 27, 3) := by decide +kernel
theorem dX5_hasItems_7 : decode cX5_hasItems 7 = .ok (.iload_n 2, 1) := by decide +kernel
theorem dX5_hasItems_8 : decode cX5_hasItems 8 = .ok (.ifCond .lt 23, 3) := by decide +kernel
theorem dX5_hasItems_11 : decode cX5_hasItems 11 = .ok (.iload_n 3, 1) := by decide +kernel
theorem dX5_hasItems_12 : decode cX5_hasItems 12 = .ok (.ifCond .lt 19, 3) := by decide +kernel
theorem dX5_hasItems_15 : decode cX5_hasItems 15 = .ok (.iload_n 2, 1) := by decide +kernel
theorem dX5_hasItems_16 : decode cX5_hasItems 16 = .ok (.aload_n 0, 1) := by decide +kernel
theorem dX5_hasItems_17 : decode cX5_hasItems 17 = .ok (.getfield 13, 3) := by decide +kernel
theorem dX5_hasItems_20 : decode cX5_hasItems 20 = .ok (.iload_n 1, 1) := by decide +kernel
theorem dX5_hasItems_21 : decode cX5_hasItems 21 = .ok (.iaload, 1) := by decide +kernel
theorem dX5_hasItems_22 : decode cX5_hasItems 22 = .ok (.iload_n 3, 1) := by decide +kernel
theorem dX5_hasItems_23 : decode cX5_hasItems 23 = .ok (.isub, 1) := by decide +kernel
theorem dX5_hasItems_24 : decode cX5_hasItems 24 = .ok (.if_icmp .gt 7, 3) := by decide +kernel
theorem dX5_hasItems_27 : decode cX5_hasItems 27 = .ok (.iconst 1, 1) := by decide +kernel
theorem dX5_hasItems_28 : decode cX5_hasItems 28 = .ok (.goto 4, 3) := by decide +kernel
theorem dX5_hasItems_31 : decode cX5_hasItems 31 = .ok (.iconst 0, 1) := by decide +kernel
theorem dX5_hasItems_32 : decode cX5_hasItems 32 = .ok (.ireturn, 1) := by decide +kernel
theorem dX5_itemAt_0 : decode cX5_itemAt 0 = .ok (.aload_n 0, 1) := by decide +kernel
theorem dX5_itemAt_1 : decode cX5_itemAt 1 = .ok (.iload_n 1, 1) := by decide +kernel
theorem dX5_itemAt_2 : decode cX5_itemAt 2 = .ok (.iload_n 2, 1) := by decide +kernel
theorem dX5_itemAt_3 : decode cX5_itemAt 3 = .ok (.invokevirtual 25, 3) := by decide +kernel
theorem dX5_itemAt_6 : decode cX5_itemAt 6 = .ok (.ifCond .eq 14, 3) := by decide +kernel
theorem dX5_itemAt_9 : decode cX5_itemAt 9 = .ok (.aload_n 0, 1) := by decide +kernel
theorem dX5_itemAt_10 : decode cX5_itemAt 10 = .ok (.getfield 18, 3) := by decide +kernel
theorem dX5_itemAt_13 : decode cX5_itemAt 13 = .ok (.iload_n 1, 1) := by decide +kernel
theorem dX5_itemAt_14 : decode cX5_itemAt 14 = .ok (.aaload, 1) := by decide +kernel
theorem dX5_itemAt_15 : decode cX5_itemAt 15 = .ok (.iload_n 2, 1) := by decide +kernel
theorem dX5_itemAt_16 : decode cX5_itemAt 16 = .ok (.iaload, 1) := by decide +kernel
theorem dX5_itemAt_17 : decode cX5_itemAt 17 = .ok (.goto 4, 3) := by decide +kernel
theorem dX5_itemAt_20 : decode cX5_itemAt 20 = .ok (.iconst 0, 1) := by decide +kernel
theorem dX5_itemAt_21 : decode cX5_itemAt 21 = .ok (.ireturn, 1) := by decide +kernel
theorem dX5_become_0 : decode cX5_become 0 = .ok (.iload_n 1, 1) := by decide +kernel
theorem dX5_become_1 : decode cX5_become 1 = .ok (.invokestatic 21, 3) := by decide +kernel
theorem dX5_become_4 : decode cX5_become 4 = .ok (.ifCond .eq 13, 3) := by decide +kernel
theorem dX5_become_7 : decode cX5_become 7 = .ok (.iload_n 3, 1) := by decide +kernel
theorem dX5_become_8 : decode cX5_become 8 = .ok (.ifCond .lt 9, 3) := by decide +kernel
theorem dX5_become_11 : decode cX5_become 11 = .ok (.iload_n 3, 1) := by decide +kernel
theorem dX5_become_12 : decode cX5_become 12 = .ok (.bipush 40, 2) := by decide +kernel
theorem dX5_become_14 : decode cX5_become 14 = .ok (.if_icmp .le 4, 3) := by decide +kernel
theorem dX5_become_17 : decode cX5_become 17 = .ok (.return_, 1) := by decide +kernel
theorem dX5_become_18 : decode cX5_become 18 = .ok (.aload_n 0, 1) := by decide +kernel
theorem dX5_become_19 : decode cX5_become 19 = .ok (.getfield 9, 3) := by decide +kernel
theorem dX5_become_22 : decode cX5_become 22 = .ok (.iload_n 1, 1) := by decide +kernel
theorem dX5_become_23 : decode cX5_become 23 = .ok (.iload_n 2, 1) := by decide +kernel
theorem dX5_become_24 : decode cX5_become 24 = .ok (.iastore, 1) := by decide +kernel
theorem dX5_become_25 : decode cX5_become 25 = .ok (.aload_n 0, 1) := by decide +kernel
theorem dX5_become_26 : decode cX5_become 26 = .ok (.getfield 13, 3) := by decide +kernel
theorem dX5_become_29 : decode cX5_become 29 = .ok (.iload_n 1, 1) := by decide +kernel
theorem dX5_become_30 : decode cX5_become 30 = .ok (.iload_n 3, 1) := by decide +kernel
theorem dX5_become_31 : decode cX5_become 31 = .ok (.iastore, 1) := by decide +kernel
theorem dX5_become_32 : decode cX5_become 32 = .ok (.iconst 0, 1) := by decide +kernel
theorem dX5_become_33 : decode cX5_become 33 = .ok (.istore 4, 2) := by decide +kernel
theorem dX5_become_35 : decode cX5_become 35 = .ok (.iload 4, 2) := by decide +kernel
theorem dX5_become_37 : decode cX5_become 37 = .ok (.bipush 40, 2) := by decide +kernel
theorem dX5_become_39 : decode cX5_become 39 = .ok (.if_icmp .ge 19, 3) := by decide +kernel
theorem dX5_become_42 : decode cX5_become 42 = .ok (.aload_n 0, 1) := by decide +kernel
theorem dX5_become_43 : decode cX5_become 43 = .ok (.getfield 18, 3) := by decide +kernel
theorem dX5_become_46 : decode cX5_become 46 = .ok (.iload_n 1, 1) := by decide +kernel
theorem dX5_become_47 : decode cX5_become 47 = .ok (.aaload, 1) := by decide +kernel
theorem dX5_become_48 : decode cX5_become 48 = .ok (.iload 4, 2) := by decide +kernel
theorem dX5_become_50 : decode cX5_become 50 = .ok (.iconst 0, 1) := by decide +kernel
theorem dX5_become_51 : decode cX5_become 51 = .ok (.iastore, 1) := by decide +kernel
theorem dX5_become_52 : decode cX5_become 52 = .ok (.iinc 4 1, 3) := by decide +kernel
theorem dX5_become_55 : decode cX5_become 55 = .ok (.goto (-20), 3) := by decide +kernel
theorem dX5_become_58 : decode cX5_become 58 = .ok (.return_, 1) := by decide +kernel
theorem dX5_write_0 : decode cX5_write 0 = .ok (.aload_n 0, 1) := by decide +kernel
theorem dX5_write_1 : decode cX5_write 1 = .ok (.iload_n 1, 1) := by decide +kernel
theorem dX5_write_2 : decode cX5_write 2 = .ok (.iload_n 2, 1) := by decide +kernel
theorem dX5_write_3 : decode cX5_write 3 = .ok (.invokevirtual 25, 3) := by decide +kernel
theorem dX5_write_6 : decode cX5_write 6 = .ok (.ifCond .eq 41, 3) := by decide +kernel
theorem dX5_write_9 : decode cX5_write 9 = .ok (.aload_n 0, 1) := by decide +kernel
theorem dX5_write_10 : decode cX5_write 10 = .ok (.getfield 9, 3) := by decide +kernel
theorem dX5_write_13 : decode cX5_write 13 = .ok (.iload_n 1, 1) := by decide +kernel
theorem dX5_write_14 : decode cX5_write 14 = .ok (.iaload, 1) := by decide +kernel
theorem dX5_write_15 : decode cX5_write 15 = .ok (.istore 4, 2) := by decide +kernel
theorem dX5_write_17 : decode cX5_write 17 = .ok (.aload_n 0, 1) := by decide +kernel
theorem dX5_write_18 : decode cX5_write 18 = .ok (.getfield 18, 3) := by decide +kernel
theorem dX5_write_21 : decode cX5_write 21 = .ok (.iload_n 1, 1) := by decide +kernel
theorem dX5_write_22 : decode cX5_write 22 = .ok (.aaload, 1) := by decide +kernel
theorem dX5_write_23 : decode cX5_write 23 = .ok (.iload_n 2, 1) := by decide +kernel
theorem dX5_write_24 : decode cX5_write 24 = .ok (.iload 4, 2) := by decide +kernel
theorem dX5_write_26 : decode cX5_write 26 = .ok (.ifCond .ne 8, 3) := by decide +kernel
theorem dX5_write_29 : decode cX5_write 29 = .ok (.iload_n 3, 1) := by decide +kernel
theorem dX5_write_30 : decode cX5_write 30 = .ok (.i2b, 1) := by decide +kernel
theorem dX5_write_31 : decode cX5_write 31 = .ok (.goto 15, 3) := by decide +kernel
theorem dX5_write_34 : decode cX5_write 34 = .ok (.iload 4, 2) := by decide +kernel
theorem dX5_write_36 : decode cX5_write 36 = .ok (.iconst 1, 1) := by decide +kernel
theorem dX5_write_37 : decode cX5_write 37 = .ok (.if_icmp .ne 8, 3) := by decide +kernel
theorem dX5_write_40 : decode cX5_write 40 = .ok (.iload_n 3, 1) := by decide +kernel
theorem dX5_write_41 : decode cX5_write 41 = .ok (.i2s, 1) := by decide +kernel
theorem dX5_write_42 : decode cX5_write 42 = .ok (.goto 4, 3) := by decide +kernel
theorem dX5_write_45 : decode cX5_write 45 = .ok (.iload_n 3, 1) := by decide +kernel
theorem dX5_write_46 : decode cX5_write 46 = .ok (.iastore, 1) := by decide +kernel
theorem dX5_write_47 : decode cX5_write 47 = .ok (.return_, 1) := by decide +kernel
theorem dX6_init_0 : decode cX6_init 0 = .ok (.aload_n 0, 1) := by decide +kernel
theorem dX6_init_1 : decode cX6_init 1 = .ok (.invokespecial 3, 3) := by decide +kernel
theorem dX6_init_4 : decode cX6_init 4 = .ok (.aload_n 0, 1) := by decide +kernel
theorem dX6_init_5 : decode cX6_init 5 = .ok (.sipush 160, 3) := by decide +kernel
theorem dX6_init_8 : decode cX6_init 8 = .ok (.newarray .int, 2) := by decide +kernel
theorem dX6_init_10 : decode cX6_init 10 = .ok (.putfield 9, 3) := by decide +kernel
theorem dX6_init_13 : decode cX6_init 13 = .ok (.aload_n 0, 1) := by decide +kernel
theorem dX6_init_14 : decode cX6_init 14 = .ok (.iconst 0, 1) := by decide +kernel
theorem dX6_init_15 : decode cX6_init 15 = .ok (.putfield 15, 3) := by decide +kernel
theorem dX6_init_18 : decode cX6_init 18 = .ok (.return_, 1) := by decide +kernel
theorem dX6_add_0 : decode cX6_add 0 = .ok (.aload_n 0, 1) := by decide +kernel
theorem dX6_add_1 : decode cX6_add 1 = .ok (.getfield 15, 3) := by decide +kernel
theorem dX6_add_4 : decode cX6_add 4 = .ok (.sipush 160, 3) := by decide +kernel
theorem dX6_add_7 : decode cX6_add 7 = .ok (.if_icmp .lt 5, 3) := by decide +kernel
theorem dX6_add_10 : decode cX6_add 10 = .ok (.iconst 0, 1) := by decide +kernel
theorem dX6_add_11 : decode cX6_add 11 = .ok (.ireturn, 1) := by decide +kernel
theorem dX6_add_12 : decode cX6_add 12 = .ok (.aload_n 0, 1) := by decide +kernel
theorem dX6_add_13 : decode cX6_add 13 = .ok (.getfield 9, 3) := by decide +kernel
theorem dX6_add_16 : decode cX6_add 16 = .ok (.aload_n 0, 1) := by decide +kernel
theorem dX6_add_17 : decode cX6_add 17 = .ok (.getfield 15, 3) := by decide +kernel
theorem dX6_add_20 : decode cX6_add 20 = .ok (.iload_n 1, 1) := by decide +kernel
theorem dX6_add_21 : decode cX6_add 21 = .ok (.iastore, 1) := by decide +kernel
theorem dX6_add_22 : decode cX6_add 22 = .ok (.aload_n 0, 1) := by decide +kernel
theorem dX6_add_23 : decode cX6_add 23 = .ok (.dup, 1) := by decide +kernel
theorem dX6_add_24 : decode cX6_add 24 = .ok (.getfield 15, 3) := by decide +kernel
theorem dX6_add_27 : decode cX6_add 27 = .ok (.iconst 1, 1) := by decide +kernel
theorem dX6_add_28 : decode cX6_add 28 = .ok (.iadd, 1) := by decide +kernel
theorem dX6_add_29 : decode cX6_add 29 = .ok (.putfield 15, 3) := by decide +kernel
theorem dX6_add_32 : decode cX6_add 32 = .ok (.iconst 1, 1) := by decide +kernel
theorem dX6_add_33 : decode cX6_add 33 = .ok (.ireturn, 1) := by decide +kernel
theorem dX6_clear_0 : decode cX6_clear 0 = .ok (.aload_n 0, 1) := by decide +kernel
theorem dX6_clear_1 : decode cX6_clear 1 = .ok (.iconst 0, 1) := by decide +kernel
theorem dX6_clear_2 : decode cX6_clear 2 = .ok (.putfield 15, 3) := by decide +kernel
theorem dX6_clear_5 : decode cX6_clear 5 = .ok (.return_, 1) := by decide +kernel
theorem dX6_byteAt_0 : decode cX6_byteAt 0 = .ok (.iload_n 1, 1) := by decide +kernel
theorem dX6_byteAt_1 : decode cX6_byteAt 1 = .ok (.ifCond .lt 30, 3) := by decide +kernel
theorem dX6_byteAt_4 : decode cX6_byteAt 4 = .ok (.iload_n 1, 1) := by decide +kernel
theorem dX6_byteAt_5 : decode cX6_byteAt 5 = .ok (.aload_n 0, 1) := by decide +kernel
theorem dX6_byteAt_6 : decode cX6_byteAt 6 = .ok (.getfield 15, 3) := by decide +kernel
theorem dX6_byteAt_9 : decode cX6_byteAt 9 = .ok (.if_icmp .ge 22, 3) := by decide +kernel
theorem dX6_byteAt_12 : decode cX6_byteAt 12 = .ok (.aload_n 0, 1) := by decide +kernel
theorem dX6_byteAt_13 : decode cX6_byteAt 13 = .ok (.getfield 15, 3) := by decide +kernel
theorem dX6_byteAt_16 : decode cX6_byteAt 16 = .ok (.sipush 160, 3) := by decide +kernel
theorem dX6_byteAt_19 : decode cX6_byteAt 19 = .ok (.if_icmp .gt 12, 3) := by decide +kernel
theorem dX6_byteAt_22 : decode cX6_byteAt 22 = .ok (.aload_n 0, 1) := by decide +kernel
theorem dX6_byteAt_23 : decode cX6_byteAt 23 = .ok (.getfield 9, 3) := by decide +kernel
theorem dX6_byteAt_26 : decode cX6_byteAt 26 = .ok (.iload_n 1, 1) := by decide +kernel
theorem dX6_byteAt_27 : decode cX6_byteAt 27 = .ok (.iaload, 1) := by decide +kernel
theorem dX6_byteAt_28 : decode cX6_byteAt 28 = .ok (.goto 4, 3) := by decide +kernel
theorem dX6_byteAt_31 : decode cX6_byteAt 31 = .ok (.iconst (-1), 1) := by decide +kernel
theorem dX6_byteAt_32 : decode cX6_byteAt 32 = .ok (.ireturn, 1) := by decide +kernel
theorem dX7_init_0 : decode cX7_init 0 = .ok (.aload_n 0, 1) := by decide +kernel
theorem dX7_init_1 : decode cX7_init 1 = .ok (.invokespecial 3, 3) := by decide +kernel
theorem dX7_init_4 : decode cX7_init 4 = .ok (.aload_n 0, 1) := by decide +kernel
theorem dX7_init_5 : decode cX7_init 5 = .ok (.iconst 1, 1) := by decide +kernel
theorem dX7_init_6 : decode cX7_init 6 = .ok (.putfield 9, 3) := by decide +kernel
theorem dX7_init_9 : decode cX7_init 9 = .ok (.aload_n 0, 1) := by decide +kernel
theorem dX7_init_10 : decode cX7_init 10 = .ok (.bipush 6, 2) := by decide +kernel
theorem dX7_init_12 : decode cX7_init 12 = .ok (.sipush 160, 3) := by decide +kernel
theorem dX7_init_15 : decode cX7_init 15 = .ok (.multianewarray 15 2, 4) := by decide +kernel
theorem dX7_init_19 : decode cX7_init 19 = .ok (.putfield 17, 3) := by decide +kernel
theorem dX7_init_22 : decode cX7_init 22 = .ok (.aload_n 0, 1) := by decide +kernel
theorem dX7_init_23 : decode cX7_init 23 = .ok (.bipush 6, 2) := by decide +kernel
theorem dX7_init_25 : decode cX7_init 25 = .ok (.iconst 3, 1) := by decide +kernel
theorem dX7_init_26 : decode cX7_init 26 = .ok (.multianewarray 15 2, 4) := by decide +kernel
theorem dX7_init_30 : decode cX7_init 30 = .ok (.putfield 20, 3) := by decide +kernel
theorem dX7_init_33 : decode cX7_init 33 = .ok (.aload_n 0, 1) := by decide +kernel
theorem dX7_init_34 : decode cX7_init 34 = .ok (.sipush 160, 3) := by decide +kernel
theorem dX7_init_37 : decode cX7_init 37 = .ok (.newarray .int, 2) := by decide +kernel
theorem dX7_init_39 : decode cX7_init 39 = .ok (.putfield 23, 3) := by decide +kernel
theorem dX7_init_42 : decode cX7_init 42 = .ok (.aload_n 0, 1) := by decide +kernel
theorem dX7_init_43 : decode cX7_init 43 = .ok (.getfield 17, 3) := by decide +kernel
theorem dX7_init_46 : decode cX7_init 46 = .ok (.iconst 0, 1) := by decide +kernel
theorem dX7_init_47 : decode cX7_init 47 = .ok (.aaload, 1) := by decide +kernel
theorem dX7_init_48 : decode cX7_init 48 = .ok (.iconst 0, 1) := by decide +kernel
theorem dX7_init_49 : decode cX7_init 49 = .ok (.iconst 3, 1) := by decide +kernel
theorem dX7_init_50 : decode cX7_init 50 = .ok (.iastore, 1) := by decide +kernel
theorem dX7_init_51 : decode cX7_init 51 = .ok (.aload_n 0, 1) := by decide +kernel
theorem dX7_init_52 : decode cX7_init 52 = .ok (.getfield 17, 3) := by decide +kernel
theorem dX7_init_55 : decode cX7_init 55 = .ok (.iconst 0, 1) := by decide +kernel
theorem dX7_init_56 : decode cX7_init 56 = .ok (.aaload, 1) := by decide +kernel
theorem dX7_init_57 : decode cX7_init 57 = .ok (.iconst 1, 1) := by decide +kernel
theorem dX7_init_58 : decode cX7_init 58 = .ok (.bipush 10, 2) := by decide +kernel
theorem dX7_init_60 : decode cX7_init 60 = .ok (.iastore, 1) := by decide +kernel
theorem dX7_init_61 : decode cX7_init 61 = .ok (.aload_n 0, 1) := by decide +kernel
theorem dX7_init_62 : decode cX7_init 62 = .ok (.getfield 17, 3) := by decide +kernel
theorem dX7_init_65 : decode cX7_init 65 = .ok (.iconst 0, 1) := by decide +kernel
theorem dX7_init_66 : decode cX7_init 66 = .ok (.aaload, 1) := by decide +kernel
theorem dX7_init_67 : decode cX7_init 67 = .ok (.iconst 2, 1) := by decide +kernel
theorem dX7_init_68 : decode cX7_init 68 = .ok (.iconst 5, 1) := by decide +kernel
theorem dX7_init_69 : decode cX7_init 69 = .ok (.iastore, 1) := by decide +kernel
theorem dX7_init_70 : decode cX7_init 70 = .ok (.aload_n 0, 1) := by decide +kernel
theorem dX7_init_71 : decode cX7_init 71 = .ok (.getfield 20, 3) := by decide +kernel
theorem dX7_init_74 : decode cX7_init 74 = .ok (.iconst 0, 1) := by decide +kernel
theorem dX7_init_75 : decode cX7_init 75 = .ok (.aaload, 1) := by decide +kernel
theorem dX7_init_76 : decode cX7_init 76 = .ok (.iconst 0, 1) := by decide +kernel
theorem dX7_init_77 : decode cX7_init 77 = .ok (.iconst 1, 1) := by decide +kernel
theorem dX7_init_78 : decode cX7_init 78 = .ok (.iastore, 1) := by decide +kernel
theorem dX7_init_79 : decode cX7_init 79 = .ok (.aload_n 0, 1) := by decide +kernel
theorem dX7_init_80 : decode cX7_init 80 = .ok (.getfield 20, 3) := by decide +kernel
theorem dX7_init_83 : decode cX7_init 83 = .ok (.iconst 0, 1) := by decide +kernel
theorem dX7_init_84 : decode cX7_init 84 = .ok (.aaload, 1) := by decide +kernel
theorem dX7_init_85 : decode cX7_init 85 = .ok (.iconst 1, 1) := by decide +kernel
theorem dX7_init_86 : decode cX7_init 86 = .ok (.iconst 2, 1) := by decide +kernel
theorem dX7_init_87 : decode cX7_init 87 = .ok (.iastore, 1) := by decide +kernel
theorem dX7_init_88 : decode cX7_init 88 = .ok (.aload_n 0, 1) := by decide +kernel
theorem dX7_init_89 : decode cX7_init 89 = .ok (.getfield 20, 3) := by decide +kernel
theorem dX7_init_92 : decode cX7_init 92 = .ok (.iconst 0, 1) := by decide +kernel
theorem dX7_init_93 : decode cX7_init 93 = .ok (.aaload, 1) := by decide +kernel
theorem dX7_init_94 : decode cX7_init 94 = .ok (.iconst 2, 1) := by decide +kernel
theorem dX7_init_95 : decode cX7_init 95 = .ok (.iconst 3, 1) := by decide +kernel
theorem dX7_init_96 : decode cX7_init 96 = .ok (.iastore, 1) := by decide +kernel
theorem dX7_init_97 : decode cX7_init 97 = .ok (.return_, 1) := by decide +kernel
theorem dX7_has_0 : decode cX7_has 0 = .ok (.iload_n 1, 1) := by decide +kernel
theorem dX7_has_1 : decode cX7_has 1 = .ok (.ifCond .lt 15, 3) := by decide +kernel
theorem dX7_has_4 : decode cX7_has 4 = .ok (.iload_n 1, 1) := by decide +kernel
theorem dX7_has_5 : decode cX7_has 5 = .ok (.aload_n 0, 1) := by decide +kernel
theorem dX7_has_6 : decode cX7_has 6 = .ok (.getfield 9, 3) := by decide +kernel
theorem dX7_has_9 : decode cX7_has 9 = .ok (.if_icmp .ge 7, 3) := by decide +kernel
theorem dX7_has_12 : decode cX7_has 12 = .ok (.iconst 1, 1) := by decide +kernel
theorem dX7_has_13 : decode cX7_has 13 = .ok (.goto 4, 3) := by decide +kernel
theorem dX7_has_16 : decode cX7_has 16 = .ok (.iconst 0, 1) := by decide +kernel
theorem dX7_has_17 : decode cX7_has 17 = .ok (.ireturn, 1) := by decide +kernel
theorem dX7_isFull_0 : decode cX7_isFull 0 = .ok (.aload_n 0, 1) := by decide +kernel
theorem dX7_isFull_1 : decode cX7_isFull 1 = .ok (.getfield 9, 3) := by decide +kernel
theorem dX7_isFull_4 : decode cX7_isFull 4 = .ok (.bipush 6, 2) := by decide +kernel
theorem dX7_isFull_6 : decode cX7_isFull 6 = .ok (.if_icmp .lt 7, 3) := by decide +kernel
theorem dX7_isFull_9 : decode cX7_isFull 9 = .ok (.iconst 1, 1) := by decide +kernel
theorem dX7_isFull_10 : decode cX7_isFull 10 = .ok (.goto 4, 3) := by decide +kernel
theorem dX7_isFull_13 : decode cX7_isFull 13 = .ok (.iconst 0, 1) := by decide +kernel
theorem dX7_isFull_14 : decode cX7_isFull 14 = .ok (.ireturn, 1) := by decide +kernel
theorem dX7_add_0 : decode cX7_add 0 = .ok (.aload_n 0, 1) := by decide +kernel
theorem dX7_add_1 : decode cX7_add 1 = .ok (.invokevirtual 27, 3) := by decide +kernel
theorem dX7_add_4 : decode cX7_add 4 = .ok (.ifCond .eq 6, 3) := by decide +kernel
theorem dX7_add_7 : decode cX7_add 7 = .ok (.bipush (-4), 2) := by decide +kernel
theorem dX7_add_9 : decode cX7_add 9 = .ok (.ireturn, 1) := by decide +kernel
theorem dX7_add_10 : decode cX7_add 10 = .ok (.aload_n 1, 1) := by decide +kernel
theorem dX7_add_11 : decode cX7_add 11 = .ok (.getfield 31, 3) := by decide +kernel
theorem dX7_add_14 : decode cX7_add 14 = .ok (.iconst 0, 1) := by decide +kernel
theorem dX7_add_15 : decode cX7_add 15 = .ok (.aload_n 0, 1) := by decide +kernel
theorem dX7_add_16 : decode cX7_add 16 = .ok (.getfield 17, 3) := by decide +kernel
theorem dX7_add_19 : decode cX7_add 19 = .ok (.aload_n 0, 1) := by decide +kernel
theorem dX7_add_20 : decode cX7_add 20 = .ok (.getfield 9, 3) := by decide +kernel
theorem dX7_add_23 : decode cX7_add 23 = .ok (.aaload, 1) := by decide +kernel
theorem dX7_add_24 : decode cX7_add 24 = .ok (.iconst 0, 1) := by decide +kernel
theorem dX7_add_25 : decode cX7_add 25 = .ok (.sipush 160, 3) := by decide +kernel
theorem dX7_add_28 : decode cX7_add 28 = .ok (.invokestatic 35, 3) := by decide +kernel
theorem dX7_add_31 : decode cX7_add 31 = .ok (.aload_n 1, 1) := by decide +kernel
theorem dX7_add_32 : decode cX7_add 32 = .ok (.getfield 41, 3) := by decide +kernel
theorem dX7_add_35 : decode cX7_add 35 = .ok (.iconst 0, 1) := by decide +kernel
theorem dX7_add_36 : decode cX7_add 36 = .ok (.aload_n 0, 1) := by decide +kernel
theorem dX7_add_37 : decode cX7_add 37 = .ok (.getfield 20, 3) := by decide +kernel
theorem dX7_add_40 : decode cX7_add 40 = .ok (.aload_n 0, 1) := by decide +kernel
theorem dX7_add_41 : decode cX7_add 41 = .ok (.getfield 9, 3) := by decide +kernel
theorem dX7_add_44 : decode cX7_add 44 = .ok (.aaload, 1) := by decide +kernel
theorem dX7_add_45 : decode cX7_add 45 = .ok (.iconst 0, 1) := by decide +kernel
theorem dX7_add_46 : decode cX7_add 46 = .ok (.iconst 3, 1) := by decide +kernel
theorem dX7_add_47 : decode cX7_add 47 = .ok (.invokestatic 35, 3) := by decide +kernel
theorem dX7_add_50 : decode cX7_add 50 = .ok (.aload_n 0, 1) := by decide +kernel
theorem dX7_add_51 : decode cX7_add 51 = .ok (.dup, 1) := by decide +kernel
theorem dX7_add_52 : decode cX7_add 52 = .ok (.getfield 9, 3) := by decide +kernel
theorem dX7_add_55 : decode cX7_add 55 = .ok (.iconst 1, 1) := by decide +kernel
theorem dX7_add_56 : decode cX7_add 56 = .ok (.iadd, 1) := by decide +kernel
theorem dX7_add_57 : decode cX7_add 57 = .ok (.putfield 9, 3) := by decide +kernel
theorem dX7_add_60 : decode cX7_add 60 = .ok (.aload_n 0, 1) := by decide +kernel
theorem dX7_add_61 : decode cX7_add 61 = .ok (.getfield 9, 3) := by decide +kernel
theorem dX7_add_64 : decode cX7_add 64 = .ok (.iconst 1, 1) := by decide +kernel
theorem dX7_add_65 : decode cX7_add 65 = .ok (.isub, 1) := by decide +kernel
theorem dX7_add_66 : decode cX7_add 66 = .ok (.ireturn, 1) := by decide +kernel
theorem dX7_valueOf_0 : decode cX7_valueOf 0 = .ok (.aload_n 0, 1) := by decide +kernel
theorem dX7_valueOf_1 : decode cX7_valueOf 1 = .ok (.iload_n 1, 1) := by decide +kernel
theorem dX7_valueOf_2 : decode cX7_valueOf 2 = .ok (.invokevirtual 43, 3) := by decide +kernel
theorem dX7_valueOf_5 : decode cX7_valueOf 5 = .ok (.ifCond .eq 19, 3) := by decide +kernel
theorem dX7_valueOf_8 : decode cX7_valueOf 8 = .ok (.iload_n 2, 1) := by decide +kernel
theorem dX7_valueOf_9 : decode cX7_valueOf 9 = .ok (.ifCond .lt 15, 3) := by decide +kernel
theorem dX7_valueOf_12 : decode cX7_valueOf 12 = .ok (.iload_n 2, 1) := by decide +kernel
theorem dX7_valueOf_13 : decode cX7_valueOf 13 = .ok (.iconst 3, 1) := by decide +kernel
theorem dX7_valueOf_14 : decode cX7_valueOf 14 = .ok (.if_icmp .ge 10, 3) := by decide +kernel
theorem dX7_valueOf_17 : decode cX7_valueOf 17 = .ok (.aload_n 3, 1) := by decide +kernel
theorem dX7_valueOf_18 : decode cX7_valueOf 18 = .ok (.arraylength, 1) := by decide +kernel
theorem dX7_valueOf_19 : decode cX7_valueOf 19 = .ok (.bipush 6, 2) := by decide +kernel
theorem dX7_valueOf_21 : decode cX7_valueOf 21 = .ok (.if_icmp .ge 5, 3) := by decide +kernel
theorem dX7_valueOf_24 : decode cX7_valueOf 24 = .ok (.iconst 0, 1) := by decide +kernel
theorem dX7_valueOf_25 : decode cX7_valueOf 25 = .ok (.ireturn, 1) := by decide +kernel
theorem dX7_valueOf_26 : decode cX7_valueOf 26 = .ok (.aload_n 0, 1) := by decide +kernel
theorem dX7_valueOf_27 : decode cX7_valueOf 27 = .ok (.getfield 17, 3) := by decide +kernel
theorem dX7_valueOf_30 : decode cX7_valueOf 30 = .ok (.iload_n 1, 1) := by decide +kernel
theorem dX7_valueOf_31 : decode cX7_valueOf 31 = .ok (.aaload, 1) := by decide +kernel
theorem dX7_valueOf_32 : decode cX7_valueOf 32 = .ok (.astore 4, 2) := by decide +kernel
theorem dX7_valueOf_34 : decode cX7_valueOf 34 = .ok (.iload_n 2, 1) := by decide +kernel
theorem dX7_valueOf_35 : decode cX7_valueOf 35 = .ok (.ifCond .ne 7, 3) := by decide +kernel
theorem dX7_valueOf_38 : decode cX7_valueOf 38 = .ok (.iconst 0, 1) := by decide +kernel
theorem dX7_valueOf_39 : decode cX7_valueOf 39 = .ok (.goto 17, 3) := by decide +kernel
theorem dX7_valueOf_42 : decode cX7_valueOf 42 = .ok (.iconst 0, 1) := by decide +kernel
theorem dX7_valueOf_43 : decode cX7_valueOf 43 = .ok (.aload_n 0, 1) := by decide +kernel
theorem dX7_valueOf_44 : decode cX7_valueOf 44 = .ok (.getfield 20, 3) := by decide +kernel
theorem dX7_valueOf_47 : decode cX7_valueOf 47 = .ok (.iload_n 1, 1) := by decide +kernel
theorem dX7_valueOf_48 : decode cX7_valueOf 48 = .ok (.aaload, 1) := by decide +kernel
theorem dX7_valueOf_49 : decode cX7_valueOf 49 = .ok (.iload_n 2, 1) := by decide +kernel
theorem dX7_valueOf_50 : decode cX7_valueOf 50 = .ok (.iconst 1, 1) := by decide +kernel
theorem dX7_valueOf_51 : decode cX7_valueOf 51 = .ok (.isub, 1) := by decide +kernel
theorem dX7_valueOf_52 : decode cX7_valueOf 52 = .ok (.iaload, 1) := by decide +kernel
theorem dX7_valueOf_53 : decode cX7_valueOf 53 = .ok (.invokestatic 47, 3) := by decide +kernel
theorem dX7_valueOf_56 : decode cX7_valueOf 56 = .ok (.istore 5, 2) := by decide +kernel
theorem dX7_valueOf_58 : decode cX7_valueOf 58 = .ok (.aload 4, 2) := by decide +kernel
theorem dX7_valueOf_60 : decode cX7_valueOf 60 = .ok (.arraylength, 1) := by decide +kernel
theorem dX7_valueOf_61 : decode cX7_valueOf 61 = .ok (.aload_n 0, 1) := by decide +kernel
theorem dX7_valueOf_62 : decode cX7_valueOf 62 = .ok (.getfield 20, 3) := by decide +kernel
theorem dX7_valueOf_65 : decode cX7_valueOf 65 = .ok (.iload_n 1, 1) := by decide +kernel
theorem dX7_valueOf_66 : decode cX7_valueOf 66 = .ok (.aaload, 1) := by decide +kernel
theorem dX7_valueOf_67 : decode cX7_valueOf 67 = .ok (.iload_n 2, 1) := by decide +kernel
theorem dX7_valueOf_68 : decode cX7_valueOf 68 = .ok (.iaload, 1) := by decide +kernel
theorem dX7_valueOf_69 : decode cX7_valueOf 69 = .ok (.invokestatic 53, 3) := by decide +kernel
theorem dX7_valueOf_72 : decode cX7_valueOf 72 = .ok (.istore 6, 2) := by decide +kernel
theorem dX7_valueOf_74 : decode cX7_valueOf 74 = .ok (.iconst 0, 1) := by decide +kernel
theorem dX7_valueOf_75 : decode cX7_valueOf 75 = .ok (.istore 7, 2) := by decide +kernel
theorem dX7_valueOf_77 : decode cX7_valueOf 77 = .ok (.iload 5, 2) := by decide +kernel
theorem dX7_valueOf_79 : decode cX7_valueOf 79 = .ok (.istore 8, 2) := by decide +kernel
theorem dX7_valueOf_81 : decode cX7_valueOf 81 = .ok (.iload 8, 2) := by decide +kernel
theorem dX7_valueOf_83 : decode cX7_valueOf 83 = .ok (.iload 6, 2) := by decide +kernel
theorem dX7_valueOf_85 : decode cX7_valueOf 85 = .ok (.if_icmp .ge 143, 3) := by decide +kernel
theorem dX7_valueOf_88 : decode cX7_valueOf 88 = .ok (.aload 4, 2) := by decide +kernel
theorem dX7_valueOf_90 : decode cX7_valueOf 90 = .ok (.iload 8, 2) := by decide +kernel
theorem dX7_valueOf_92 : decode cX7_valueOf 92 = .ok (.iaload, 1) := by decide +kernel
theorem dX7_valueOf_93 : decode cX7_valueOf 93 = .ok (.istore 9, 2) := by decide +kernel
theorem dX7_valueOf_95 : decode cX7_valueOf 95 = .ok (.iload 9, 2) := by decide +kernel
theorem dX7_valueOf_97 : decode cX7_valueOf 97 = .ok (.bipush (-6), 2) := by decide +kernel
theorem dX7_valueOf_99 : decode cX7_valueOf 99 = .ok (.if_icmp .lt 42, 3) := by decide +kernel
theorem dX7_valueOf_102 : decode cX7_valueOf 102 = .ok (.iload 7, 2) := by decide +kernel
theorem dX7_valueOf_104 : decode cX7_valueOf 104 = .ok (.aload_n 0, 1) := by decide +kernel
theorem dX7_valueOf_105 : decode cX7_valueOf 105 = .ok (.getfield 23, 3) := by decide +kernel
theorem dX7_valueOf_108 : decode cX7_valueOf 108 = .ok (.arraylength, 1) := by decide +kernel
theorem dX7_valueOf_109 : decode cX7_valueOf 109 = .ok (.if_icmp .ge 32, 3) := by decide +kernel
theorem dX7_valueOf_112 : decode cX7_valueOf 112 = .ok (.aload_n 0, 1) := by decide +kernel
theorem dX7_valueOf_113 : decode cX7_valueOf 113 = .ok (.getfield 23, 3) := by decide +kernel
theorem dX7_valueOf_116 : decode cX7_valueOf 116 = .ok (.iload 7, 2) := by decide +kernel
theorem dX7_valueOf_118 : decode cX7_valueOf 118 = .ok (.iload 9, 2) := by decide +kernel
theorem dX7_valueOf_120 : decode cX7_valueOf 120 = .ok (.ifCond .lt 8, 3) := by decide +kernel
theorem dX7_valueOf_123 : decode cX7_valueOf 123 = .ok (.iload 9, 2) := by decide +kernel
theorem dX7_valueOf_125 : decode cX7_valueOf 125 = .ok (.goto 9, 3) := by decide +kernel
theorem dX7_valueOf_128 : decode cX7_valueOf 128 = .ok (.aload_n 3, 1) := by decide +kernel
theorem dX7_valueOf_129 : decode cX7_valueOf 129 = .ok (.iconst (-1), 1) := by decide +kernel
theorem dX7_valueOf_130 : decode cX7_valueOf 130 = .ok (.iload 9, 2) := by decide +kernel
theorem dX7_valueOf_132 : decode cX7_valueOf 132 = .ok (.isub, 1) := by decide +kernel
theorem dX7_valueOf_133 : decode cX7_valueOf 133 = .ok (.iaload, 1) := by decide +kernel
theorem dX7_valueOf_134 : decode cX7_valueOf 134 = .ok (.iastore, 1) := by decide +kernel
theorem dX7_valueOf_135 : decode cX7_valueOf 135 = .ok (.iinc 7 1, 3) := by decide +kernel
theorem dX7_valueOf_138 : decode cX7_valueOf 138 = .ok (.goto 84, 3) := by decide +kernel
theorem dX7_valueOf_141 : decode cX7_valueOf 141 = .ok (.iload 9, 2) := by decide +kernel
theorem dX7_valueOf_143 : decode cX7_valueOf 143 = .ok (.invokestatic 56, 3) := by decide +kernel
theorem dX7_valueOf_146 : decode cX7_valueOf 146 = .ok (.ifCond .eq 35, 3) := by decide +kernel
theorem dX7_valueOf_149 : decode cX7_valueOf 149 = .ok (.iload 7, 2) := by decide +kernel
theorem dX7_valueOf_151 : decode cX7_valueOf 151 = .ok (.iconst 1, 1) := by decide +kernel
theorem dX7_valueOf_152 : decode cX7_valueOf 152 = .ok (.if_icmp .lt 29, 3) := by decide +kernel
theorem dX7_valueOf_155 : decode cX7_valueOf 155 = .ok (.aload_n 0, 1) := by decide +kernel
theorem dX7_valueOf_156 : decode cX7_valueOf 156 = .ok (.getfield 23, 3) := by decide +kernel
theorem dX7_valueOf_159 : decode cX7_valueOf 159 = .ok (.iload 7, 2) := by decide +kernel
theorem dX7_valueOf_161 : decode cX7_valueOf 161 = .ok (.iconst 1, 1) := by decide +kernel
theorem dX7_valueOf_162 : decode cX7_valueOf 162 = .ok (.isub, 1) := by decide +kernel
theorem dX7_valueOf_163 : decode cX7_valueOf 163 = .ok (.iload 9, 2) := by decide +kernel
theorem dX7_valueOf_165 : decode cX7_valueOf 165 = .ok (.aload_n 0, 1) := by decide +kernel
theorem dX7_valueOf_166 : decode cX7_valueOf 166 = .ok (.getfield 23, 3) := by decide +kernel
theorem dX7_valueOf_169 : decode cX7_valueOf 169 = .ok (.iload 7, 2) := by decide +kernel
theorem dX7_valueOf_171 : decode cX7_valueOf 171 = .ok (.iconst 1, 1) := by decide +kernel
theorem dX7_valueOf_172 : decode cX7_valueOf 172 = .ok (.isub, 1) := by decide +kernel
theorem dX7_valueOf_173 : decode cX7_valueOf 173 = .ok (.iaload, 1) := by decide +kernel
theorem dX7_valueOf_174 : decode cX7_valueOf 174 = .ok (.invokestatic 59, 3) := by decide +kernel
theorem dX7_valueOf_177 : decode cX7_valueOf 177 = .ok (.iastore, 1) := by decide +kernel
theorem dX7_valueOf_178 : decode cX7_valueOf 178 = .ok (.goto 44, 3) := by decide +kernel
theorem dX7_valueOf_181 : decode cX7_valueOf 181 = .ok (.iload 7, 2) := by decide +kernel
theorem dX7_valueOf_183 : decode cX7_valueOf 183 = .ok (.iconst 2, 1) := by decide +kernel
theorem dX7_valueOf_184 : decode cX7_valueOf 184 = .ok (.if_icmp .lt 38, 3) := by decide +kernel
theorem dX7_valueOf_187 : decode cX7_valueOf 187 = .ok (.aload_n 0, 1) := by decide +kernel
theorem dX7_valueOf_188 : decode cX7_valueOf 188 = .ok (.getfield 23, 3) := by decide +kernel
theorem dX7_valueOf_191 : decode cX7_valueOf 191 = .ok (.iload 7, 2) := by decide +kernel
theorem dX7_valueOf_193 : decode cX7_valueOf 193 = .ok (.iconst 2, 1) := by decide +kernel
theorem dX7_valueOf_194 : decode cX7_valueOf 194 = .ok (.isub, 1) := by decide +kernel
theorem dX7_valueOf_195 : decode cX7_valueOf 195 = .ok (.iload 9, 2) := by decide +kernel
theorem dX7_valueOf_197 : decode cX7_valueOf 197 = .ok (.aload_n 0, 1) := by decide +kernel
theorem dX7_valueOf_198 : decode cX7_valueOf 198 = .ok (.getfield 23, 3) := by decide +kernel
theorem dX7_valueOf_201 : decode cX7_valueOf 201 = .ok (.iload 7, 2) := by decide +kernel
theorem dX7_valueOf_203 : decode cX7_valueOf 203 = .ok (.iconst 2, 1) := by decide +kernel
theorem dX7_valueOf_204 : decode cX7_valueOf 204 = .ok (.isub, 1) := by decide +kernel
theorem dX7_valueOf_205 : decode cX7_valueOf 205 = .ok (.iaload, 1) := by decide +kernel
theorem dX7_valueOf_206 : decode cX7_valueOf 206 = .ok (.aload_n 0, 1) := by decide +kernel
theorem dX7_valueOf_207 : decode cX7_valueOf 207 = .ok (.getfield 23, 3) := by decide +kernel
theorem dX7_valueOf_210 : decode cX7_valueOf 210 = .ok (.iload 7, 2) := by decide +kernel
theorem dX7_valueOf_212 : decode cX7_valueOf 212 = .ok (.iconst 1, 1) := by decide +kernel
theorem dX7_valueOf_213 : decode cX7_valueOf 213 = .ok (.isub, 1) := by decide +kernel
theorem dX7_valueOf_214 : decode cX7_valueOf 214 = .ok (.iaload, 1) := by decide +kernel
theorem dX7_valueOf_215 : decode cX7_valueOf 215 = .ok (.invokestatic 62, 3) := by decide +kernel
theorem dX7_valueOf_218 : decode cX7_valueOf 218 = .ok (.iastore, 1) := by decide +kernel
theorem dX7_valueOf_219 : decode cX7_valueOf 219 = .ok (.iinc 7 (-1), 3) := by decide +kernel
theorem dX7_valueOf_222 : decode cX7_valueOf 222 = .ok (.iinc 8 1, 3) := by decide +kernel
theorem dX7_valueOf_225 : decode cX7_valueOf 225 = .ok (.goto (-144), 3) := by decide +kernel
theorem dX7_valueOf_228 : decode cX7_valueOf 228 = .ok (.aload_n 0, 1) := by decide +kernel
theorem dX7_valueOf_229 : decode cX7_valueOf 229 = .ok (.getfield 23, 3) := by decide +kernel
theorem dX7_valueOf_232 : decode cX7_valueOf 232 = .ok (.iconst 0, 1) := by decide +kernel
theorem dX7_valueOf_233 : decode cX7_valueOf 233 = .ok (.iaload, 1) := by decide +kernel
theorem dX7_valueOf_234 : decode cX7_valueOf 234 = .ok (.ireturn, 1) := by decide +kernel
theorem dX7_isOfOne_0 : decode cX7_isOfOne 0 = .ok (.iload_n 0, 1) := by decide +kernel
theorem dX7_isOfOne_1 : decode cX7_isOfOne 1 = .ok (.bipush (-12), 2) := by decide +kernel
theorem dX7_isOfOne_3 : decode cX7_isOfOne 3 = .ok (.if_icmp .eq 9, 3) := by decide +kernel
theorem dX7_isOfOne_6 : decode cX7_isOfOne 6 = .ok (.iload_n 0, 1) := by decide +kernel
theorem dX7_isOfOne_7 : decode cX7_isOfOne 7 = .ok (.bipush (-18), 2) := by decide +kernel
theorem dX7_isOfOne_9 : decode cX7_isOfOne 9 = .ok (.if_icmp .ne 7, 3) := by decide +kernel
theorem dX7_isOfOne_12 : decode cX7_isOfOne 12 = .ok (.iconst 1, 1) := by decide +kernel
theorem dX7_isOfOne_13 : decode cX7_isOfOne 13 = .ok (.goto 4, 3) := by decide +kernel
theorem dX7_isOfOne_16 : decode cX7_isOfOne 16 = .ok (.iconst 0, 1) := by decide +kernel
theorem dX7_isOfOne_17 : decode cX7_isOfOne 17 = .ok (.ireturn, 1) := by decide +kernel
theorem dX7_ofOne_0 : decode cX7_ofOne 0 = .ok (.iload_n 0, 1) := by decide +kernel
theorem dX7_ofOne_1 : decode cX7_ofOne 1 = .ok (.bipush (-18), 2) := by decide +kernel
theorem dX7_ofOne_3 : decode cX7_ofOne 3 = .ok (.if_icmp .ne 8, 3) := by decide +kernel
theorem dX7_ofOne_6 : decode cX7_ofOne 6 = .ok (.iload_n 1, 1) := by decide +kernel
theorem dX7_ofOne_7 : decode cX7_ofOne 7 = .ok (.ineg, 1) := by decide +kernel
theorem dX7_ofOne_8 : decode cX7_ofOne 8 = .ok (.goto 12, 3) := by decide +kernel
theorem dX7_ofOne_11 : decode cX7_ofOne 11 = .ok (.iload_n 1, 1) := by decide +kernel
theorem dX7_ofOne_12 : decode cX7_ofOne 12 = .ok (.ifCond .ne 7, 3) := by decide +kernel
theorem dX7_ofOne_15 : decode cX7_ofOne 15 = .ok (.iconst 1, 1) := by decide +kernel
theorem dX7_ofOne_16 : decode cX7_ofOne 16 = .ok (.goto 4, 3) := by decide +kernel
theorem dX7_ofOne_19 : decode cX7_ofOne 19 = .ok (.iconst 0, 1) := by decide +kernel
theorem dX7_ofOne_20 : decode cX7_ofOne 20 = .ok (.ireturn, 1) := by decide +kernel
theorem dX7_ofTwo_0 : decode cX7_ofTwo 0 = .ok (.iload_n 0, 1) := by decide +kernel
theorem dX7_ofTwo_1 : decode cX7_ofTwo 1 = .ok (.tableswitch 109 (-17) (-10) #[105, 101, 97, 86, 75, 109, 61, 47], 47) := by decide +kernel
theorem dX7_ofTwo_48 : decode cX7_ofTwo 48 = .ok (.iload_n 1, 1) := by decide +kernel
theorem dX7_ofTwo_49 : decode cX7_ofTwo 49 = .ok (.ifCond .ne 7, 3) := by decide +kernel
theorem dX7_ofTwo_52 : decode cX7_ofTwo 52 = .ok (.iload_n 2, 1) := by decide +kernel
theorem dX7_ofTwo_53 : decode cX7_ofTwo 53 = .ok (.ifCond .eq 7, 3) := by decide +kernel
theorem dX7_ofTwo_56 : decode cX7_ofTwo 56 = .ok (.iconst 1, 1) := by decide +kernel
theorem dX7_ofTwo_57 : decode cX7_ofTwo 57 = .ok (.goto 4, 3) := by decide +kernel
theorem dX7_ofTwo_60 : decode cX7_ofTwo 60 = .ok (.iconst 0, 1) := by decide +kernel
theorem dX7_ofTwo_61 : decode cX7_ofTwo 61 = .ok (.ireturn, 1) := by decide +kernel
theorem dX7_ofTwo_62 : decode cX7_ofTwo 62 = .ok (.iload_n 1, 1) := by decide +kernel
theorem dX7_ofTwo_63 : decode cX7_ofTwo 63 = .ok (.ifCond .eq 11, 3) := by decide +kernel
theorem dX7_ofTwo_66 : decode cX7_ofTwo 66 = .ok (.iload_n 2, 1) := by decide +kernel
theorem dX7_ofTwo_67 : decode cX7_ofTwo 67 = .ok (.ifCond .eq 7, 3) := by decide +kernel
theorem dX7_ofTwo_70 : decode cX7_ofTwo 70 = .ok (.iconst 1, 1) := by decide +kernel
theorem dX7_ofTwo_71 : decode cX7_ofTwo 71 = .ok (.goto 4, 3) := by decide +kernel
theorem dX7_ofTwo_74 : decode cX7_ofTwo 74 = .ok (.iconst 0, 1) := by decide +kernel
theorem dX7_ofTwo_75 : decode cX7_ofTwo 75 = .ok (.ireturn, 1) := by decide +kernel
theorem dX7_ofTwo_76 : decode cX7_ofTwo 76 = .ok (.iload_n 1, 1) := by decide +kernel
theorem dX7_ofTwo_77 : decode cX7_ofTwo 77 = .ok (.iload_n 2, 1) := by decide +kernel
theorem dX7_ofTwo_78 : decode cX7_ofTwo 78 = .ok (.if_icmp .ge 7, 3) := by decide +kernel
theorem dX7_ofTwo_81 : decode cX7_ofTwo 81 = .ok (.iconst 1, 1) := by decide +kernel
theorem dX7_ofTwo_82 : decode cX7_ofTwo 82 = .ok (.goto 4, 3) := by decide +kernel
theorem dX7_ofTwo_85 : decode cX7_ofTwo 85 = .ok (.iconst 0, 1) := by decide +kernel
theorem dX7_ofTwo_86 : decode cX7_ofTwo 86 = .ok (.ireturn, 1) := by decide +kernel
theorem dX7_ofTwo_87 : decode cX7_ofTwo 87 = .ok (.iload_n 1, 1) := by decide +kernel
theorem dX7_ofTwo_88 : decode cX7_ofTwo 88 = .ok (.iload_n 2, 1) := by decide +kernel
theorem dX7_ofTwo_89 : decode cX7_ofTwo 89 = .ok (.if_icmp .ne 7, 3) := by decide +kernel
theorem dX7_ofTwo_92 : decode cX7_ofTwo 92 = .ok (.iconst 1, 1) := by decide +kernel
theorem dX7_ofTwo_93 : decode cX7_ofTwo 93 = .ok (.goto 4, 3) := by decide +kernel
theorem dX7_ofTwo_96 : decode cX7_ofTwo 96 = .ok (.iconst 0, 1) := by decide +kernel
theorem dX7_ofTwo_97 : decode cX7_ofTwo 97 = .ok (.ireturn, 1) := by decide +kernel
theorem dX7_ofTwo_98 : decode cX7_ofTwo 98 = .ok (.iload_n 1, 1) := by decide +kernel
theorem dX7_ofTwo_99 : decode cX7_ofTwo 99 = .ok (.iload_n 2, 1) := by decide +kernel
theorem dX7_ofTwo_100 : decode cX7_ofTwo 100 = .ok (.iadd, 1) := by decide +kernel
theorem dX7_ofTwo_101 : decode cX7_ofTwo 101 = .ok (.ireturn, 1) := by decide +kernel
theorem dX7_ofTwo_102 : decode cX7_ofTwo 102 = .ok (.iload_n 1, 1) := by decide +kernel
theorem dX7_ofTwo_103 : decode cX7_ofTwo 103 = .ok (.iload_n 2, 1) := by decide +kernel
theorem dX7_ofTwo_104 : decode cX7_ofTwo 104 = .ok (.isub, 1) := by decide +kernel
theorem dX7_ofTwo_105 : decode cX7_ofTwo 105 = .ok (.ireturn, 1) := by decide +kernel
theorem dX7_ofTwo_106 : decode cX7_ofTwo 106 = .ok (.iload_n 1, 1) := by decide +kernel
theorem dX7_ofTwo_107 : decode cX7_ofTwo 107 = .ok (.iload_n 2, 1) := by decide +kernel
theorem dX7_ofTwo_108 : decode cX7_ofTwo 108 = .ok (.imul, 1) := by decide +kernel
theorem dX7_ofTwo_109 : decode cX7_ofTwo 109 = .ok (.ireturn, 1) := by decide +kernel
theorem dX7_ofTwo_110 : decode cX7_ofTwo 110 = .ok (.iconst 0, 1) := by decide +kernel
theorem dX7_ofTwo_111 : decode cX7_ofTwo 111 = .ok (.ireturn, 1) := by decide +kernel
theorem dX8_init_0 : decode cX8_init 0 = .ok (.aload_n 0, 1) := by decide +kernel
theorem dX8_init_1 : decode cX8_init 1 = .ok (.invokespecial 3, 3) := by decide +kernel
theorem dX8_init_4 : decode cX8_init 4 = .ok (.aload_n 0, 1) := by decide +kernel
theorem dX8_init_5 : decode cX8_init 5 = .ok (.bipush 6, 2) := by decide +kernel
theorem dX8_init_7 : decode cX8_init 7 = .ok (.newarray .int, 2) := by decide +kernel
theorem dX8_init_9 : decode cX8_init 9 = .ok (.putfield 9, 3) := by decide +kernel
theorem dX8_init_12 : decode cX8_init 12 = .ok (.aload_n 0, 1) := by decide +kernel
theorem dX8_init_13 : decode cX8_init 13 = .ok (.bipush 80, 2) := by decide +kernel
theorem dX8_init_15 : decode cX8_init 15 = .ok (.newarray .int, 2) := by decide +kernel
theorem dX8_init_17 : decode cX8_init 17 = .ok (.putfield 15, 3) := by decide +kernel
theorem dX8_init_20 : decode cX8_init 20 = .ok (.aload_n 0, 1) := by decide +kernel
theorem dX8_init_21 : decode cX8_init 21 = .ok (.iconst 0, 1) := by decide +kernel
theorem dX8_init_22 : decode cX8_init 22 = .ok (.putfield 18, 3) := by decide +kernel
theorem dX8_init_25 : decode cX8_init 25 = .ok (.aload_n 0, 1) := by decide +kernel
theorem dX8_init_26 : decode cX8_init 26 = .ok (.iconst 0, 1) := by decide +kernel
theorem dX8_init_27 : decode cX8_init 27 = .ok (.putfield 22, 3) := by decide +kernel
theorem dX8_init_30 : decode cX8_init 30 = .ok (.aload_n 0, 1) := by decide +kernel
theorem dX8_init_31 : decode cX8_init 31 = .ok (.iconst 0, 1) := by decide +kernel
theorem dX8_init_32 : decode cX8_init 32 = .ok (.putfield 25, 3) := by decide +kernel
theorem dX8_init_35 : decode cX8_init 35 = .ok (.aload_n 0, 1) := by decide +kernel
theorem dX8_init_36 : decode cX8_init 36 = .ok (.iconst 0, 1) := by decide +kernel
theorem dX8_init_37 : decode cX8_init 37 = .ok (.putfield 28, 3) := by decide +kernel
theorem dX8_init_40 : decode cX8_init 40 = .ok (.aload_n 0, 1) := by decide +kernel
theorem dX8_init_41 : decode cX8_init 41 = .ok (.aload_n 1, 1) := by decide +kernel
theorem dX8_init_42 : decode cX8_init 42 = .ok (.putfield 31, 3) := by decide +kernel
theorem dX8_init_45 : decode cX8_init 45 = .ok (.aload_n 0, 1) := by decide +kernel
theorem dX8_init_46 : decode cX8_init 46 = .ok (.aload_n 2, 1) := by decide +kernel
theorem dX8_init_47 : decode cX8_init 47 = .ok (.putfield 35, 3) := by decide +kernel
theorem dX8_init_50 : decode cX8_init 50 = .ok (.return_, 1) := by decide +kernel
theorem dX8_start_0 : decode cX8_start 0 = .ok (.aload_n 0, 1) := by decide +kernel
theorem dX8_start_1 : decode cX8_start 1 = .ok (.aload_n 0, 1) := by decide +kernel
theorem dX8_start_2 : decode cX8_start 2 = .ok (.getfield 31, 3) := by decide +kernel
theorem dX8_start_5 : decode cX8_start 5 = .ok (.getfield 39, 3) := by decide +kernel
theorem dX8_start_8 : decode cX8_start 8 = .ok (.putfield 18, 3) := by decide +kernel
theorem dX8_start_11 : decode cX8_start 11 = .ok (.aload_n 0, 1) := by decide +kernel
theorem dX8_start_12 : decode cX8_start 12 = .ok (.aload_n 0, 1) := by decide +kernel
theorem dX8_start_13 : decode cX8_start 13 = .ok (.getfield 31, 3) := by decide +kernel
theorem dX8_start_16 : decode cX8_start 16 = .ok (.invokevirtual 42, 3) := by decide +kernel
theorem dX8_start_19 : decode cX8_start 19 = .ok (.putfield 22, 3) := by decide +kernel
theorem dX8_start_22 : decode cX8_start 22 = .ok (.aload_n 0, 1) := by decide +kernel
theorem dX8_start_23 : decode cX8_start 23 = .ok (.aload_n 0, 1) := by decide +kernel
theorem dX8_start_24 : decode cX8_start 24 = .ok (.getfield 31, 3) := by decide +kernel
theorem dX8_start_27 : decode cX8_start 27 = .ok (.invokevirtual 46, 3) := by decide +kernel
theorem dX8_start_30 : decode cX8_start 30 = .ok (.putfield 25, 3) := by decide +kernel
theorem dX8_start_33 : decode cX8_start 33 = .ok (.aload_n 0, 1) := by decide +kernel
theorem dX8_start_34 : decode cX8_start 34 = .ok (.iconst 0, 1) := by decide +kernel
theorem dX8_start_35 : decode cX8_start 35 = .ok (.putfield 28, 3) := by decide +kernel
theorem dX8_start_38 : decode cX8_start 38 = .ok (.iconst 0, 1) := by decide +kernel
theorem dX8_start_39 : decode cX8_start 39 = .ok (.istore_n 1, 1) := by decide +kernel
theorem dX8_start_40 : decode cX8_start 40 = .ok (.iload_n 1, 1) := by decide +kernel
theorem dX8_start_41 : decode cX8_start 41 = .ok (.aload_n 0, 1) := by decide +kernel
theorem dX8_start_42 : decode cX8_start 42 = .ok (.getfield 31, 3) := by decide +kernel
theorem dX8_start_45 : decode cX8_start 45 = .ok (.getfield 49, 3) := by decide +kernel
theorem dX8_start_48 : decode cX8_start 48 = .ok (.if_icmp .ge 24, 3) := by decide +kernel
theorem dX8_start_51 : decode cX8_start 51 = .ok (.aload_n 0, 1) := by decide +kernel
theorem dX8_start_52 : decode cX8_start 52 = .ok (.getfield 9, 3) := by decide +kernel
theorem dX8_start_55 : decode cX8_start 55 = .ok (.iload_n 1, 1) := by decide +kernel
theorem dX8_start_56 : decode cX8_start 56 = .ok (.aload_n 0, 1) := by decide +kernel
theorem dX8_start_57 : decode cX8_start 57 = .ok (.getfield 31, 3) := by decide +kernel
theorem dX8_start_60 : decode cX8_start 60 = .ok (.getfield 52, 3) := by decide +kernel
theorem dX8_start_63 : decode cX8_start 63 = .ok (.iload_n 1, 1) := by decide +kernel
theorem dX8_start_64 : decode cX8_start 64 = .ok (.iaload, 1) := by decide +kernel
theorem dX8_start_65 : decode cX8_start 65 = .ok (.iastore, 1) := by decide +kernel
theorem dX8_start_66 : decode cX8_start 66 = .ok (.iinc 1 1, 3) := by decide +kernel
theorem dX8_start_69 : decode cX8_start 69 = .ok (.goto (-29), 3) := by decide +kernel
theorem dX8_start_72 : decode cX8_start 72 = .ok (.iconst 0, 1) := by decide +kernel
theorem dX8_start_73 : decode cX8_start 73 = .ok (.istore_n 1, 1) := by decide +kernel
theorem dX8_start_74 : decode cX8_start 74 = .ok (.iload_n 1, 1) := by decide +kernel
theorem dX8_start_75 : decode cX8_start 75 = .ok (.aload_n 0, 1) := by decide +kernel
theorem dX8_start_76 : decode cX8_start 76 = .ok (.getfield 15, 3) := by decide +kernel
theorem dX8_start_79 : decode cX8_start 79 = .ok (.arraylength, 1) := by decide +kernel
theorem dX8_start_80 : decode cX8_start 80 = .ok (.if_icmp .ge 16, 3) := by decide +kernel
theorem dX8_start_83 : decode cX8_start 83 = .ok (.aload_n 0, 1) := by decide +kernel
theorem dX8_start_84 : decode cX8_start 84 = .ok (.getfield 15, 3) := by decide +kernel
theorem dX8_start_87 : decode cX8_start 87 = .ok (.iload_n 1, 1) := by decide +kernel
theorem dX8_start_88 : decode cX8_start 88 = .ok (.iconst 0, 1) := by decide +kernel
theorem dX8_start_89 : decode cX8_start 89 = .ok (.iastore, 1) := by decide +kernel
theorem dX8_start_90 : decode cX8_start 90 = .ok (.iinc 1 1, 3) := by decide +kernel
theorem dX8_start_93 : decode cX8_start 93 = .ok (.goto (-19), 3) := by decide +kernel
theorem dX8_start_96 : decode cX8_start 96 = .ok (.iconst 0, 1) := by decide +kernel
theorem dX8_start_97 : decode cX8_start 97 = .ok (.istore_n 1, 1) := by decide +kernel
theorem dX8_start_98 : decode cX8_start 98 = .ok (.iload_n 1, 1) := by decide +kernel
theorem dX8_start_99 : decode cX8_start 99 = .ok (.aload_n 0, 1) := by decide +kernel
theorem dX8_start_100 : decode cX8_start 100 = .ok (.getfield 31, 3) := by decide +kernel
theorem dX8_start_103 : decode cX8_start 103 = .ok (.getfield 39, 3) := by decide +kernel
theorem dX8_start_106 : decode cX8_start 106 = .ok (.if_icmp .ge 64, 3) := by decide +kernel
theorem dX8_start_109 : decode cX8_start 109 = .ok (.aload_n 0, 1) := by decide +kernel
theorem dX8_start_110 : decode cX8_start 110 = .ok (.getfield 31, 3) := by decide +kernel
theorem dX8_start_113 : decode cX8_start 113 = .ok (.aload_n 0, 1) := by decide +kernel
theorem dX8_start_114 : decode cX8_start 114 = .ok (.getfield 31, 3) := by decide +kernel
theorem dX8_start_117 : decode cX8_start 117 = .ok (.getfield 55, 3) := by decide +kernel
theorem dX8_start_120 : decode cX8_start 120 = .ok (.iload_n 1, 1) := by decide +kernel
theorem dX8_start_121 : decode cX8_start 121 = .ok (.iaload, 1) := by decide +kernel
theorem dX8_start_122 : decode cX8_start 122 = .ok (.invokevirtual 58, 3) := by decide +kernel
theorem dX8_start_125 : decode cX8_start 125 = .ok (.istore_n 2, 1) := by decide +kernel
theorem dX8_start_126 : decode cX8_start 126 = .ok (.aload_n 0, 1) := by decide +kernel
theorem dX8_start_127 : decode cX8_start 127 = .ok (.dup, 1) := by decide +kernel
theorem dX8_start_128 : decode cX8_start 128 = .ok (.getfield 28, 3) := by decide +kernel
theorem dX8_start_131 : decode cX8_start 131 = .ok (.aload_n 0, 1) := by decide +kernel
theorem dX8_start_132 : decode cX8_start 132 = .ok (.iload_n 2, 1) := by decide +kernel
theorem dX8_start_133 : decode cX8_start 133 = .ok (.aload_n 0, 1) := by decide +kernel
theorem dX8_start_134 : decode cX8_start 134 = .ok (.getfield 31, 3) := by decide +kernel
theorem dX8_start_137 : decode cX8_start 137 = .ok (.getfield 62, 3) := by decide +kernel
theorem dX8_start_140 : decode cX8_start 140 = .ok (.iload_n 1, 1) := by decide +kernel
theorem dX8_start_141 : decode cX8_start 141 = .ok (.iaload, 1) := by decide +kernel
theorem dX8_start_142 : decode cX8_start 142 = .ok (.invokevirtual 65, 3) := by decide +kernel
theorem dX8_start_145 : decode cX8_start 145 = .ok (.iadd, 1) := by decide +kernel
theorem dX8_start_146 : decode cX8_start 146 = .ok (.putfield 28, 3) := by decide +kernel
theorem dX8_start_149 : decode cX8_start 149 = .ok (.aload_n 0, 1) := by decide +kernel
theorem dX8_start_150 : decode cX8_start 150 = .ok (.iload_n 2, 1) := by decide +kernel
theorem dX8_start_151 : decode cX8_start 151 = .ok (.aload_n 0, 1) := by decide +kernel
theorem dX8_start_152 : decode cX8_start 152 = .ok (.getfield 31, 3) := by decide +kernel
theorem dX8_start_155 : decode cX8_start 155 = .ok (.getfield 62, 3) := by decide +kernel
theorem dX8_start_158 : decode cX8_start 158 = .ok (.iload_n 1, 1) := by decide +kernel
theorem dX8_start_159 : decode cX8_start 159 = .ok (.iaload, 1) := by decide +kernel
theorem dX8_start_160 : decode cX8_start 160 = .ok (.iconst 1, 1) := by decide +kernel
theorem dX8_start_161 : decode cX8_start 161 = .ok (.invokevirtual 69, 3) := by decide +kernel
theorem dX8_start_164 : decode cX8_start 164 = .ok (.iinc 1 1, 3) := by decide +kernel
theorem dX8_start_167 : decode cX8_start 167 = .ok (.goto (-69), 3) := by decide +kernel
theorem dX8_start_170 : decode cX8_start 170 = .ok (.return_, 1) := by decide +kernel
theorem dX8_lyingAt_0 : decode cX8_lyingAt 0 = .ok (.iload_n 1, 1) := by decide +kernel
theorem dX8_lyingAt_1 : decode cX8_lyingAt 1 = .ok (.bipush 16, 2) := by decide +kernel
theorem dX8_lyingAt_3 : decode cX8_lyingAt 3 = .ok (.imul, 1) := by decide +kernel
theorem dX8_lyingAt_4 : decode cX8_lyingAt 4 = .ok (.iload_n 2, 1) := by decide +kernel
theorem dX8_lyingAt_5 : decode cX8_lyingAt 5 = .ok (.bipush 16, 2) := by decide +kernel
theorem dX8_lyingAt_7 : decode cX8_lyingAt 7 = .ok (.invokestatic 73, 3) := by decide +kernel
theorem dX8_lyingAt_10 : decode cX8_lyingAt 10 = .ok (.iadd, 1) := by decide +kernel
theorem dX8_lyingAt_11 : decode cX8_lyingAt 11 = .ok (.istore_n 3, 1) := by decide +kernel
theorem dX8_lyingAt_12 : decode cX8_lyingAt 12 = .ok (.iload_n 3, 1) := by decide +kernel
theorem dX8_lyingAt_13 : decode cX8_lyingAt 13 = .ok (.ifCond .lt 21, 3) := by decide +kernel
theorem dX8_lyingAt_16 : decode cX8_lyingAt 16 = .ok (.iload_n 3, 1) := by decide +kernel
theorem dX8_lyingAt_17 : decode cX8_lyingAt 17 = .ok (.aload_n 0, 1) := by decide +kernel
theorem dX8_lyingAt_18 : decode cX8_lyingAt 18 = .ok (.getfield 15, 3) := by decide +kernel
theorem dX8_lyingAt_21 : decode cX8_lyingAt 21 = .ok (.arraylength, 1) := by decide +kernel
theorem dX8_lyingAt_22 : decode cX8_lyingAt 22 = .ok (.if_icmp .ge 12, 3) := by decide +kernel
theorem dX8_lyingAt_25 : decode cX8_lyingAt 25 = .ok (.aload_n 0, 1) := by decide +kernel
theorem dX8_lyingAt_26 : decode cX8_lyingAt 26 = .ok (.getfield 15, 3) := by decide +kernel
theorem dX8_lyingAt_29 : decode cX8_lyingAt 29 = .ok (.iload_n 3, 1) := by decide +kernel
theorem dX8_lyingAt_30 : decode cX8_lyingAt 30 = .ok (.iaload, 1) := by decide +kernel
theorem dX8_lyingAt_31 : decode cX8_lyingAt 31 = .ok (.goto 4, 3) := by decide +kernel
theorem dX8_lyingAt_34 : decode cX8_lyingAt 34 = .ok (.iconst 0, 1) := by decide +kernel
theorem dX8_lyingAt_35 : decode cX8_lyingAt 35 = .ok (.ireturn, 1) := by decide +kernel
theorem dX8_change_0 : decode cX8_change 0 = .ok (.iload_n 1, 1) := by decide +kernel
theorem dX8_change_1 : decode cX8_change 1 = .ok (.bipush 16, 2) := by decide +kernel
theorem dX8_change_3 : decode cX8_change 3 = .ok (.imul, 1) := by decide +kernel
theorem dX8_change_4 : decode cX8_change 4 = .ok (.iload_n 2, 1) := by decide +kernel
theorem dX8_change_5 : decode cX8_change 5 = .ok (.bipush 16, 2) := by decide +kernel
theorem dX8_change_7 : decode cX8_change 7 = .ok (.invokestatic 73, 3) := by decide +kernel
theorem dX8_change_10 : decode cX8_change 10 = .ok (.iadd, 1) := by decide +kernel
theorem dX8_change_11 : decode cX8_change 11 = .ok (.istore 4, 2) := by decide +kernel
theorem dX8_change_13 : decode cX8_change 13 = .ok (.iload 4, 2) := by decide +kernel
theorem dX8_change_15 : decode cX8_change 15 = .ok (.ifCond .lt 24, 3) := by decide +kernel
theorem dX8_change_18 : decode cX8_change 18 = .ok (.iload 4, 2) := by decide +kernel
theorem dX8_change_20 : decode cX8_change 20 = .ok (.aload_n 0, 1) := by decide +kernel
theorem dX8_change_21 : decode cX8_change 21 = .ok (.getfield 15, 3) := by decide +kernel
theorem dX8_change_24 : decode cX8_change 24 = .ok (.arraylength, 1) := by decide +kernel
theorem dX8_change_25 : decode cX8_change 25 = .ok (.if_icmp .ge 14, 3) := by decide +kernel
theorem dX8_change_28 : decode cX8_change 28 = .ok (.aload_n 0, 1) := by decide +kernel
theorem dX8_change_29 : decode cX8_change 29 = .ok (.getfield 15, 3) := by decide +kernel
theorem dX8_change_32 : decode cX8_change 32 = .ok (.iload 4, 2) := by decide +kernel
theorem dX8_change_34 : decode cX8_change 34 = .ok (.dup2, 1) := by decide +kernel
theorem dX8_change_35 : decode cX8_change 35 = .ok (.iaload, 1) := by decide +kernel
theorem dX8_change_36 : decode cX8_change 36 = .ok (.iload_n 3, 1) := by decide +kernel
theorem dX8_change_37 : decode cX8_change 37 = .ok (.iadd, 1) := by decide +kernel
theorem dX8_change_38 : decode cX8_change 38 = .ok (.iastore, 1) := by decide +kernel
theorem dX8_change_39 : decode cX8_change 39 = .ok (.return_, 1) := by decide +kernel
theorem dX8_neighbours_0 : decode cX8_neighbours 0 = .ok (.aload_n 0, 1) := by decide +kernel
theorem dX8_neighbours_1 : decode cX8_neighbours 1 = .ok (.iload_n 1, 1) := by decide +kernel
theorem dX8_neighbours_2 : decode cX8_neighbours 2 = .ok (.iload_n 2, 1) := by decide +kernel
theorem dX8_neighbours_3 : decode cX8_neighbours 3 = .ok (.iconst 1, 1) := by decide +kernel
theorem dX8_neighbours_4 : decode cX8_neighbours 4 = .ok (.isub, 1) := by decide +kernel
theorem dX8_neighbours_5 : decode cX8_neighbours 5 = .ok (.invokevirtual 78, 3) := by decide +kernel
theorem dX8_neighbours_8 : decode cX8_neighbours 8 = .ok (.aload_n 0, 1) := by decide +kernel
theorem dX8_neighbours_9 : decode cX8_neighbours 9 = .ok (.iload_n 1, 1) := by decide +kernel
theorem dX8_neighbours_10 : decode cX8_neighbours 10 = .ok (.iload_n 2, 1) := by decide +kernel
theorem dX8_neighbours_11 : decode cX8_neighbours 11 = .ok (.invokevirtual 78, 3) := by decide +kernel
theorem dX8_neighbours_14 : decode cX8_neighbours 14 = .ok (.iadd, 1) := by decide +kernel
theorem dX8_neighbours_15 : decode cX8_neighbours 15 = .ok (.aload_n 0, 1) := by decide +kernel
theorem dX8_neighbours_16 : decode cX8_neighbours 16 = .ok (.iload_n 1, 1) := by decide +kernel
theorem dX8_neighbours_17 : decode cX8_neighbours 17 = .ok (.iload_n 2, 1) := by decide +kernel
theorem dX8_neighbours_18 : decode cX8_neighbours 18 = .ok (.iconst 1, 1) := by decide +kernel
theorem dX8_neighbours_19 : decode cX8_neighbours 19 = .ok (.iadd, 1) := by decide +kernel
theorem dX8_neighbours_20 : decode cX8_neighbours 20 = .ok (.invokevirtual 78, 3) := by decide +kernel
theorem dX8_neighbours_23 : decode cX8_neighbours 23 = .ok (.iadd, 1) := by decide +kernel
theorem dX8_neighbours_24 : decode cX8_neighbours 24 = .ok (.ireturn, 1) := by decide +kernel
theorem dX8_canBe_0 : decode cX8_canBe 0 = .ok (.aload_n 0, 1) := by decide +kernel
theorem dX8_canBe_1 : decode cX8_canBe 1 = .ok (.getfield 31, 3) := by decide +kernel
theorem dX8_canBe_4 : decode cX8_canBe 4 = .ok (.iload_n 1, 1) := by decide +kernel
theorem dX8_canBe_5 : decode cX8_canBe 5 = .ok (.invokevirtual 81, 3) := by decide +kernel
theorem dX8_canBe_8 : decode cX8_canBe 8 = .ok (.ifCond .eq 41, 3) := by decide +kernel
theorem dX8_canBe_11 : decode cX8_canBe 11 = .ok (.aload_n 0, 1) := by decide +kernel
theorem dX8_canBe_12 : decode cX8_canBe 12 = .ok (.getfield 9, 3) := by decide +kernel
theorem dX8_canBe_15 : decode cX8_canBe 15 = .ok (.iload_n 1, 1) := by decide +kernel
theorem dX8_canBe_16 : decode cX8_canBe 16 = .ok (.iaload, 1) := by decide +kernel
theorem dX8_canBe_17 : decode cX8_canBe 17 = .ok (.iconst 1, 1) := by decide +kernel
theorem dX8_canBe_18 : decode cX8_canBe 18 = .ok (.if_icmp .lt 31, 3) := by decide +kernel
theorem dX8_canBe_21 : decode cX8_canBe 21 = .ok (.aload_n 0, 1) := by decide +kernel
theorem dX8_canBe_22 : decode cX8_canBe 22 = .ok (.getfield 18, 3) := by decide +kernel
theorem dX8_canBe_25 : decode cX8_canBe 25 = .ok (.bipush 40, 2) := by decide +kernel
theorem dX8_canBe_27 : decode cX8_canBe 27 = .ok (.if_icmp .ge 22, 3) := by decide +kernel
theorem dX8_canBe_30 : decode cX8_canBe 30 = .ok (.aload_n 0, 1) := by decide +kernel
theorem dX8_canBe_31 : decode cX8_canBe 31 = .ok (.getfield 31, 3) := by decide +kernel
theorem dX8_canBe_34 : decode cX8_canBe 34 = .ok (.iload_n 1, 1) := by decide +kernel
theorem dX8_canBe_35 : decode cX8_canBe 35 = .ok (.invokevirtual 85, 3) := by decide +kernel
theorem dX8_canBe_38 : decode cX8_canBe 38 = .ok (.aload_n 0, 1) := by decide +kernel
theorem dX8_canBe_39 : decode cX8_canBe 39 = .ok (.getfield 25, 3) := by decide +kernel
theorem dX8_canBe_42 : decode cX8_canBe 42 = .ok (.if_icmp .gt 7, 3) := by decide +kernel
theorem dX8_canBe_45 : decode cX8_canBe 45 = .ok (.iconst 1, 1) := by decide +kernel
theorem dX8_canBe_46 : decode cX8_canBe 46 = .ok (.goto 4, 3) := by decide +kernel
theorem dX8_canBe_49 : decode cX8_canBe 49 = .ok (.iconst 0, 1) := by decide +kernel
theorem dX8_canBe_50 : decode cX8_canBe 50 = .ok (.ireturn, 1) := by decide +kernel
theorem dX8_angleOf_0 : decode cX8_angleOf 0 = .ok (.aload_n 0, 1) := by decide +kernel
theorem dX8_angleOf_1 : decode cX8_angleOf 1 = .ok (.getfield 31, 3) := by decide +kernel
theorem dX8_angleOf_4 : decode cX8_angleOf 4 = .ok (.iload_n 1, 1) := by decide +kernel
theorem dX8_angleOf_5 : decode cX8_angleOf 5 = .ok (.invokevirtual 81, 3) := by decide +kernel
theorem dX8_angleOf_8 : decode cX8_angleOf 8 = .ok (.ifCond .ne 8, 3) := by decide +kernel
theorem dX8_angleOf_11 : decode cX8_angleOf 11 = .ok (.aload_n 0, 1) := by decide +kernel
theorem dX8_angleOf_12 : decode cX8_angleOf 12 = .ok (.getfield 22, 3) := by decide +kernel
theorem dX8_angleOf_15 : decode cX8_angleOf 15 = .ok (.ireturn, 1) := by decide +kernel
theorem dX8_angleOf_16 : decode cX8_angleOf 16 = .ok (.aload_n 0, 1) := by decide +kernel
theorem dX8_angleOf_17 : decode cX8_angleOf 17 = .ok (.getfield 35, 3) := by decide +kernel
theorem dX8_angleOf_20 : decode cX8_angleOf 20 = .ok (.aload_n 0, 1) := by decide +kernel
theorem dX8_angleOf_21 : decode cX8_angleOf 21 = .ok (.getfield 31, 3) := by decide +kernel
theorem dX8_angleOf_24 : decode cX8_angleOf 24 = .ok (.iload_n 1, 1) := by decide +kernel
theorem dX8_angleOf_25 : decode cX8_angleOf 25 = .ok (.invokevirtual 88, 3) := by decide +kernel
theorem dX8_angleOf_28 : decode cX8_angleOf 28 = .ok (.aload_n 0, 1) := by decide +kernel
theorem dX8_angleOf_29 : decode cX8_angleOf 29 = .ok (.getfield 35, 3) := by decide +kernel
theorem dX8_angleOf_32 : decode cX8_angleOf 32 = .ok (.aload_n 0, 1) := by decide +kernel
theorem dX8_angleOf_33 : decode cX8_angleOf 33 = .ok (.getfield 18, 3) := by decide +kernel
theorem dX8_angleOf_36 : decode cX8_angleOf 36 = .ok (.aload_n 0, 1) := by decide +kernel
theorem dX8_angleOf_37 : decode cX8_angleOf 37 = .ok (.getfield 22, 3) := by decide +kernel
theorem dX8_angleOf_40 : decode cX8_angleOf 40 = .ok (.aload_n 0, 1) := by decide +kernel
theorem dX8_angleOf_41 : decode cX8_angleOf 41 = .ok (.getfield 9, 3) := by decide +kernel
theorem dX8_angleOf_44 : decode cX8_angleOf 44 = .ok (.iload_n 1, 1) := by decide +kernel
theorem dX8_angleOf_45 : decode cX8_angleOf 45 = .ok (.iaload, 1) := by decide +kernel
theorem dX8_angleOf_46 : decode cX8_angleOf 46 = .ok (.aload_n 0, 1) := by decide +kernel
theorem dX8_angleOf_47 : decode cX8_angleOf 47 = .ok (.getfield 25, 3) := by decide +kernel
theorem dX8_angleOf_50 : decode cX8_angleOf 50 = .ok (.invokevirtual 94, 3) := by decide +kernel
theorem dX8_angleOf_53 : decode cX8_angleOf 53 = .ok (.aload_n 0, 1) := by decide +kernel
theorem dX8_angleOf_54 : decode cX8_angleOf 54 = .ok (.getfield 22, 3) := by decide +kernel
theorem dX8_angleOf_57 : decode cX8_angleOf 57 = .ok (.aload_n 0, 1) := by decide +kernel
theorem dX8_angleOf_58 : decode cX8_angleOf 58 = .ok (.getfield 35, 3) := by decide +kernel
theorem dX8_angleOf_61 : decode cX8_angleOf 61 = .ok (.invokevirtual 98, 3) := by decide +kernel
theorem dX8_angleOf_64 : decode cX8_angleOf 64 = .ok (.invokestatic 101, 3) := by decide +kernel
theorem dX8_angleOf_67 : decode cX8_angleOf 67 = .ok (.ireturn, 1) := by decide +kernel
theorem dX8_touchingWith_0 : decode cX8_touchingWith 0 = .ok (.aload_n 0, 1) := by decide +kernel
theorem dX8_touchingWith_1 : decode cX8_touchingWith 1 = .ok (.getfield 28, 3) := by decide +kernel
theorem dX8_touchingWith_4 : decode cX8_touchingWith 4 = .ok (.aload_n 0, 1) := by decide +kernel
theorem dX8_touchingWith_5 : decode cX8_touchingWith 5 = .ok (.aload_n 0, 1) := by decide +kernel
theorem dX8_touchingWith_6 : decode cX8_touchingWith 6 = .ok (.getfield 31, 3) := by decide +kernel
theorem dX8_touchingWith_9 : decode cX8_touchingWith 9 = .ok (.iload_n 1, 1) := by decide +kernel
theorem dX8_touchingWith_10 : decode cX8_touchingWith 10 = .ok (.invokevirtual 58, 3) := by decide +kernel
theorem dX8_touchingWith_13 : decode cX8_touchingWith 13 = .ok (.aload_n 0, 1) := by decide +kernel
theorem dX8_touchingWith_14 : decode cX8_touchingWith 14 = .ok (.iload_n 1, 1) := by decide +kernel
theorem dX8_touchingWith_15 : decode cX8_touchingWith 15 = .ok (.invokevirtual 104, 3) := by decide +kernel
theorem dX8_touchingWith_18 : decode cX8_touchingWith 18 = .ok (.invokevirtual 65, 3) := by decide +kernel
theorem dX8_touchingWith_21 : decode cX8_touchingWith 21 = .ok (.iadd, 1) := by decide +kernel
theorem dX8_touchingWith_22 : decode cX8_touchingWith 22 = .ok (.ireturn, 1) := by decide +kernel
theorem dX8_touchedBy_0 : decode cX8_touchedBy 0 = .ok (.aload_n 0, 1) := by decide +kernel
theorem dX8_touchedBy_1 : decode cX8_touchedBy 1 = .ok (.getfield 31, 3) := by decide +kernel
theorem dX8_touchedBy_4 : decode cX8_touchedBy 4 = .ok (.iload_n 1, 1) := by decide +kernel
theorem dX8_touchedBy_5 : decode cX8_touchedBy 5 = .ok (.invokevirtual 107, 3) := by decide +kernel
theorem dX8_touchedBy_8 : decode cX8_touchedBy 8 = .ok (.ifCond .ne 5, 3) := by decide +kernel
theorem dX8_touchedBy_11 : decode cX8_touchedBy 11 = .ok (.iconst 0, 1) := by decide +kernel
theorem dX8_touchedBy_12 : decode cX8_touchedBy 12 = .ok (.ireturn, 1) := by decide +kernel
theorem dX8_touchedBy_13 : decode cX8_touchedBy 13 = .ok (.aload_n 0, 1) := by decide +kernel
theorem dX8_touchedBy_14 : decode cX8_touchedBy 14 = .ok (.aload_n 0, 1) := by decide +kernel
theorem dX8_touchedBy_15 : decode cX8_touchedBy 15 = .ok (.getfield 31, 3) := by decide +kernel
theorem dX8_touchedBy_18 : decode cX8_touchedBy 18 = .ok (.aload_n 0, 1) := by decide +kernel
theorem dX8_touchedBy_19 : decode cX8_touchedBy 19 = .ok (.getfield 31, 3) := by decide +kernel
theorem dX8_touchedBy_22 : decode cX8_touchedBy 22 = .ok (.getfield 55, 3) := by decide +kernel
theorem dX8_touchedBy_25 : decode cX8_touchedBy 25 = .ok (.iload_n 1, 1) := by decide +kernel
theorem dX8_touchedBy_26 : decode cX8_touchedBy 26 = .ok (.iaload, 1) := by decide +kernel
theorem dX8_touchedBy_27 : decode cX8_touchedBy 27 = .ok (.invokevirtual 58, 3) := by decide +kernel
theorem dX8_touchedBy_30 : decode cX8_touchedBy 30 = .ok (.aload_n 0, 1) := by decide +kernel
theorem dX8_touchedBy_31 : decode cX8_touchedBy 31 = .ok (.getfield 31, 3) := by decide +kernel
theorem dX8_touchedBy_34 : decode cX8_touchedBy 34 = .ok (.getfield 62, 3) := by decide +kernel
theorem dX8_touchedBy_37 : decode cX8_touchedBy 37 = .ok (.iload_n 1, 1) := by decide +kernel
theorem dX8_touchedBy_38 : decode cX8_touchedBy 38 = .ok (.iaload, 1) := by decide +kernel
theorem dX8_touchedBy_39 : decode cX8_touchedBy 39 = .ok (.invokevirtual 65, 3) := by decide +kernel
theorem dX8_touchedBy_42 : decode cX8_touchedBy 42 = .ok (.iconst 1, 1) := by decide +kernel
theorem dX8_touchedBy_43 : decode cX8_touchedBy 43 = .ok (.isub, 1) := by decide +kernel
theorem dX8_touchedBy_44 : decode cX8_touchedBy 44 = .ok (.ireturn, 1) := by decide +kernel
theorem dX8_put_0 : decode cX8_put 0 = .ok (.aload_n 0, 1) := by decide +kernel
theorem dX8_put_1 : decode cX8_put 1 = .ok (.getfield 31, 3) := by decide +kernel
theorem dX8_put_4 : decode cX8_put 4 = .ok (.iload_n 1, 1) := by decide +kernel
theorem dX8_put_5 : decode cX8_put 5 = .ok (.invokevirtual 81, 3) := by decide +kernel
theorem dX8_put_8 : decode cX8_put 8 = .ok (.ifCond .ne 4, 3) := by decide +kernel
theorem dX8_put_11 : decode cX8_put 11 = .ok (.return_, 1) := by decide +kernel
theorem dX8_put_12 : decode cX8_put 12 = .ok (.aload_n 0, 1) := by decide +kernel
theorem dX8_put_13 : decode cX8_put 13 = .ok (.aload_n 0, 1) := by decide +kernel
theorem dX8_put_14 : decode cX8_put 14 = .ok (.iload_n 1, 1) := by decide +kernel
theorem dX8_put_15 : decode cX8_put 15 = .ok (.invokevirtual 104, 3) := by decide +kernel
theorem dX8_put_18 : decode cX8_put 18 = .ok (.putfield 22, 3) := by decide +kernel
theorem dX8_put_21 : decode cX8_put 21 = .ok (.aload_n 0, 1) := by decide +kernel
theorem dX8_put_22 : decode cX8_put 22 = .ok (.dup, 1) := by decide +kernel
theorem dX8_put_23 : decode cX8_put 23 = .ok (.getfield 28, 3) := by decide +kernel
theorem dX8_put_26 : decode cX8_put 26 = .ok (.aload_n 0, 1) := by decide +kernel
theorem dX8_put_27 : decode cX8_put 27 = .ok (.aload_n 0, 1) := by decide +kernel
theorem dX8_put_28 : decode cX8_put 28 = .ok (.getfield 31, 3) := by decide +kernel
theorem dX8_put_31 : decode cX8_put 31 = .ok (.iload_n 1, 1) := by decide +kernel
theorem dX8_put_32 : decode cX8_put 32 = .ok (.invokevirtual 58, 3) := by decide +kernel
theorem dX8_put_35 : decode cX8_put 35 = .ok (.aload_n 0, 1) := by decide +kernel
theorem dX8_put_36 : decode cX8_put 36 = .ok (.getfield 22, 3) := by decide +kernel
theorem dX8_put_39 : decode cX8_put 39 = .ok (.invokevirtual 65, 3) := by decide +kernel
theorem dX8_put_42 : decode cX8_put 42 = .ok (.iadd, 1) := by decide +kernel
theorem dX8_put_43 : decode cX8_put 43 = .ok (.putfield 28, 3) := by decide +kernel
theorem dX8_put_46 : decode cX8_put 46 = .ok (.aload_n 0, 1) := by decide +kernel
theorem dX8_put_47 : decode cX8_put 47 = .ok (.aload_n 0, 1) := by decide +kernel
theorem dX8_put_48 : decode cX8_put 48 = .ok (.getfield 31, 3) := by decide +kernel
theorem dX8_put_51 : decode cX8_put 51 = .ok (.iload_n 1, 1) := by decide +kernel
theorem dX8_put_52 : decode cX8_put 52 = .ok (.invokevirtual 58, 3) := by decide +kernel
theorem dX8_put_55 : decode cX8_put 55 = .ok (.aload_n 0, 1) := by decide +kernel
theorem dX8_put_56 : decode cX8_put 56 = .ok (.getfield 22, 3) := by decide +kernel
theorem dX8_put_59 : decode cX8_put 59 = .ok (.iconst 1, 1) := by decide +kernel
theorem dX8_put_60 : decode cX8_put 60 = .ok (.invokevirtual 69, 3) := by decide +kernel
theorem dX8_put_63 : decode cX8_put 63 = .ok (.aload_n 0, 1) := by decide +kernel
theorem dX8_put_64 : decode cX8_put 64 = .ok (.dup, 1) := by decide +kernel
theorem dX8_put_65 : decode cX8_put 65 = .ok (.getfield 18, 3) := by decide +kernel
theorem dX8_put_68 : decode cX8_put 68 = .ok (.iconst 1, 1) := by decide +kernel
theorem dX8_put_69 : decode cX8_put 69 = .ok (.iadd, 1) := by decide +kernel
theorem dX8_put_70 : decode cX8_put 70 = .ok (.putfield 18, 3) := by decide +kernel
theorem dX8_put_73 : decode cX8_put 73 = .ok (.aload_n 0, 1) := by decide +kernel
theorem dX8_put_74 : decode cX8_put 74 = .ok (.getfield 9, 3) := by decide +kernel
theorem dX8_put_77 : decode cX8_put 77 = .ok (.iload_n 1, 1) := by decide +kernel
theorem dX8_put_78 : decode cX8_put 78 = .ok (.dup2, 1) := by decide +kernel
theorem dX8_put_79 : decode cX8_put 79 = .ok (.iaload, 1) := by decide +kernel
theorem dX8_put_80 : decode cX8_put 80 = .ok (.iconst 1, 1) := by decide +kernel
theorem dX8_put_81 : decode cX8_put 81 = .ok (.isub, 1) := by decide +kernel
theorem dX8_put_82 : decode cX8_put 82 = .ok (.iastore, 1) := by decide +kernel
theorem dX8_put_83 : decode cX8_put 83 = .ok (.aload_n 0, 1) := by decide +kernel
theorem dX8_put_84 : decode cX8_put 84 = .ok (.dup, 1) := by decide +kernel
theorem dX8_put_85 : decode cX8_put 85 = .ok (.getfield 25, 3) := by decide +kernel
theorem dX8_put_88 : decode cX8_put 88 = .ok (.aload_n 0, 1) := by decide +kernel
theorem dX8_put_89 : decode cX8_put 89 = .ok (.getfield 31, 3) := by decide +kernel
theorem dX8_put_92 : decode cX8_put 92 = .ok (.iload_n 1, 1) := by decide +kernel
theorem dX8_put_93 : decode cX8_put 93 = .ok (.invokevirtual 85, 3) := by decide +kernel
theorem dX8_put_96 : decode cX8_put 96 = .ok (.isub, 1) := by decide +kernel
theorem dX8_put_97 : decode cX8_put 97 = .ok (.putfield 25, 3) := by decide +kernel
theorem dX8_put_100 : decode cX8_put 100 = .ok (.return_, 1) := by decide +kernel
theorem dX8_putBack_0 : decode cX8_putBack 0 = .ok (.aload_n 0, 1) := by decide +kernel
theorem dX8_putBack_1 : decode cX8_putBack 1 = .ok (.getfield 31, 3) := by decide +kernel
theorem dX8_putBack_4 : decode cX8_putBack 4 = .ok (.iload_n 1, 1) := by decide +kernel
theorem dX8_putBack_5 : decode cX8_putBack 5 = .ok (.invokevirtual 81, 3) := by decide +kernel
theorem dX8_putBack_8 : decode cX8_putBack 8 = .ok (.ifCond .ne 4, 3) := by decide +kernel
theorem dX8_putBack_11 : decode cX8_putBack 11 = .ok (.return_, 1) := by decide +kernel
theorem dX8_putBack_12 : decode cX8_putBack 12 = .ok (.aload_n 0, 1) := by decide +kernel
theorem dX8_putBack_13 : decode cX8_putBack 13 = .ok (.aload_n 0, 1) := by decide +kernel
theorem dX8_putBack_14 : decode cX8_putBack 14 = .ok (.getfield 31, 3) := by decide +kernel
theorem dX8_putBack_17 : decode cX8_putBack 17 = .ok (.iload_n 1, 1) := by decide +kernel
theorem dX8_putBack_18 : decode cX8_putBack 18 = .ok (.invokevirtual 58, 3) := by decide +kernel
theorem dX8_putBack_21 : decode cX8_putBack 21 = .ok (.aload_n 0, 1) := by decide +kernel
theorem dX8_putBack_22 : decode cX8_putBack 22 = .ok (.getfield 22, 3) := by decide +kernel
theorem dX8_putBack_25 : decode cX8_putBack 25 = .ok (.iconst (-1), 1) := by decide +kernel
theorem dX8_putBack_26 : decode cX8_putBack 26 = .ok (.invokevirtual 69, 3) := by decide +kernel
theorem dX8_putBack_29 : decode cX8_putBack 29 = .ok (.aload_n 0, 1) := by decide +kernel
theorem dX8_putBack_30 : decode cX8_putBack 30 = .ok (.dup, 1) := by decide +kernel
theorem dX8_putBack_31 : decode cX8_putBack 31 = .ok (.getfield 28, 3) := by decide +kernel
theorem dX8_putBack_34 : decode cX8_putBack 34 = .ok (.aload_n 0, 1) := by decide +kernel
theorem dX8_putBack_35 : decode cX8_putBack 35 = .ok (.aload_n 0, 1) := by decide +kernel
theorem dX8_putBack_36 : decode cX8_putBack 36 = .ok (.getfield 31, 3) := by decide +kernel
theorem dX8_putBack_39 : decode cX8_putBack 39 = .ok (.iload_n 1, 1) := by decide +kernel
theorem dX8_putBack_40 : decode cX8_putBack 40 = .ok (.invokevirtual 58, 3) := by decide +kernel
theorem dX8_putBack_43 : decode cX8_putBack 43 = .ok (.aload_n 0, 1) := by decide +kernel
theorem dX8_putBack_44 : decode cX8_putBack 44 = .ok (.getfield 22, 3) := by decide +kernel
theorem dX8_putBack_47 : decode cX8_putBack 47 = .ok (.invokevirtual 65, 3) := by decide +kernel
theorem dX8_putBack_50 : decode cX8_putBack 50 = .ok (.isub, 1) := by decide +kernel
theorem dX8_putBack_51 : decode cX8_putBack 51 = .ok (.putfield 28, 3) := by decide +kernel
theorem dX8_putBack_54 : decode cX8_putBack 54 = .ok (.aload_n 0, 1) := by decide +kernel
theorem dX8_putBack_55 : decode cX8_putBack 55 = .ok (.iload_n 2, 1) := by decide +kernel
theorem dX8_putBack_56 : decode cX8_putBack 56 = .ok (.putfield 22, 3) := by decide +kernel
theorem dX8_putBack_59 : decode cX8_putBack 59 = .ok (.aload_n 0, 1) := by decide +kernel
theorem dX8_putBack_60 : decode cX8_putBack 60 = .ok (.dup, 1) := by decide +kernel
theorem dX8_putBack_61 : decode cX8_putBack 61 = .ok (.getfield 18, 3) := by decide +kernel
theorem dX8_putBack_64 : decode cX8_putBack 64 = .ok (.iconst 1, 1) := by decide +kernel
theorem dX8_putBack_65 : decode cX8_putBack 65 = .ok (.isub, 1) := by decide +kernel
theorem dX8_putBack_66 : decode cX8_putBack 66 = .ok (.putfield 18, 3) := by decide +kernel
theorem dX8_putBack_69 : decode cX8_putBack 69 = .ok (.aload_n 0, 1) := by decide +kernel
theorem dX8_putBack_70 : decode cX8_putBack 70 = .ok (.getfield 9, 3) := by decide +kernel
theorem dX8_putBack_73 : decode cX8_putBack 73 = .ok (.iload_n 1, 1) := by decide +kernel
theorem dX8_putBack_74 : decode cX8_putBack 74 = .ok (.dup2, 1) := by decide +kernel
theorem dX8_putBack_75 : decode cX8_putBack 75 = .ok (.iaload, 1) := by decide +kernel
theorem dX8_putBack_76 : decode cX8_putBack 76 = .ok (.iconst 1, 1) := by decide +kernel
theorem dX8_putBack_77 : decode cX8_putBack 77 = .ok (.iadd, 1) := by decide +kernel
theorem dX8_putBack_78 : decode cX8_putBack 78 = .ok (.iastore, 1) := by decide +kernel
theorem dX8_putBack_79 : decode cX8_putBack 79 = .ok (.aload_n 0, 1) := by decide +kernel
theorem dX8_putBack_80 : decode cX8_putBack 80 = .ok (.dup, 1) := by decide +kernel
theorem dX8_putBack_81 : decode cX8_putBack 81 = .ok (.getfield 25, 3) := by decide +kernel
theorem dX8_putBack_84 : decode cX8_putBack 84 = .ok (.aload_n 0, 1) := by decide +kernel
theorem dX8_putBack_85 : decode cX8_putBack 85 = .ok (.getfield 31, 3) := by decide +kernel
theorem dX8_putBack_88 : decode cX8_putBack 88 = .ok (.iload_n 1, 1) := by decide +kernel
theorem dX8_putBack_89 : decode cX8_putBack 89 = .ok (.invokevirtual 85, 3) := by decide +kernel
theorem dX8_putBack_92 : decode cX8_putBack 92 = .ok (.iadd, 1) := by decide +kernel
theorem dX8_putBack_93 : decode cX8_putBack 93 = .ok (.putfield 25, 3) := by decide +kernel
theorem dX8_putBack_96 : decode cX8_putBack 96 = .ok (.return_, 1) := by decide +kernel
theorem dX9_init_0 : decode cX9_init 0 = .ok (.aload_n 0, 1) := by decide +kernel
theorem dX9_init_1 : decode cX9_init 1 = .ok (.invokespecial 1, 3) := by decide +kernel
theorem dX9_init_4 : decode cX9_init 4 = .ok (.aload_n 0, 1) := by decide +kernel
theorem dX9_init_5 : decode cX9_init 5 = .ok (.new 7, 3) := by decide +kernel
theorem dX9_init_8 : decode cX9_init 8 = .ok (.dup, 1) := by decide +kernel
theorem dX9_init_9 : decode cX9_init 9 = .ok (.invokespecial 9, 3) := by decide +kernel
theorem dX9_init_12 : decode cX9_init 12 = .ok (.putfield 10, 3) := by decide +kernel
theorem dX9_init_15 : decode cX9_init 15 = .ok (.aload_n 0, 1) := by decide +kernel
theorem dX9_init_16 : decode cX9_init 16 = .ok (.new 7, 3) := by decide +kernel
theorem dX9_init_19 : decode cX9_init 19 = .ok (.dup, 1) := by decide +kernel
theorem dX9_init_20 : decode cX9_init 20 = .ok (.invokespecial 9, 3) := by decide +kernel
theorem dX9_init_23 : decode cX9_init 23 = .ok (.putfield 16, 3) := by decide +kernel
theorem dX9_init_26 : decode cX9_init 26 = .ok (.aload_n 0, 1) := by decide +kernel
theorem dX9_init_27 : decode cX9_init 27 = .ok (.iconst 0, 1) := by decide +kernel
theorem dX9_init_28 : decode cX9_init 28 = .ok (.putfield 19, 3) := by decide +kernel
theorem dX9_init_31 : decode cX9_init 31 = .ok (.aload_n 0, 1) := by decide +kernel
theorem dX9_init_32 : decode cX9_init 32 = .ok (.new 23, 3) := by decide +kernel
theorem dX9_init_35 : decode cX9_init 35 = .ok (.dup, 1) := by decide +kernel
theorem dX9_init_36 : decode cX9_init 36 = .ok (.invokespecial 25, 3) := by decide +kernel
theorem dX9_init_39 : decode cX9_init 39 = .ok (.putfield 26, 3) := by decide +kernel
theorem dX9_init_42 : decode cX9_init 42 = .ok (.aload_n 0, 1) := by decide +kernel
theorem dX9_init_43 : decode cX9_init 43 = .ok (.new 30, 3) := by decide +kernel
theorem dX9_init_46 : decode cX9_init 46 = .ok (.dup, 1) := by decide +kernel
theorem dX9_init_47 : decode cX9_init 47 = .ok (.invokespecial 32, 3) := by decide +kernel
theorem dX9_init_50 : decode cX9_init 50 = .ok (.putfield 33, 3) := by decide +kernel
theorem dX9_init_53 : decode cX9_init 53 = .ok (.aload_n 0, 1) := by decide +kernel
theorem dX9_init_54 : decode cX9_init 54 = .ok (.new 37, 3) := by decide +kernel
theorem dX9_init_57 : decode cX9_init 57 = .ok (.dup, 1) := by decide +kernel
theorem dX9_init_58 : decode cX9_init 58 = .ok (.aload_n 0, 1) := by decide +kernel
theorem dX9_init_59 : decode cX9_init 59 = .ok (.getfield 26, 3) := by decide +kernel
theorem dX9_init_62 : decode cX9_init 62 = .ok (.invokespecial 39, 3) := by decide +kernel
theorem dX9_init_65 : decode cX9_init 65 = .ok (.putfield 42, 3) := by decide +kernel
theorem dX9_init_68 : decode cX9_init 68 = .ok (.aload_n 0, 1) := by decide +kernel
theorem dX9_init_69 : decode cX9_init 69 = .ok (.new 46, 3) := by decide +kernel
theorem dX9_init_72 : decode cX9_init 72 = .ok (.dup, 1) := by decide +kernel
theorem dX9_init_73 : decode cX9_init 73 = .ok (.aload_n 0, 1) := by decide +kernel
theorem dX9_init_74 : decode cX9_init 74 = .ok (.getfield 33, 3) := by decide +kernel
theorem dX9_init_77 : decode cX9_init 77 = .ok (.invokespecial 48, 3) := by decide +kernel
theorem dX9_init_80 : decode cX9_init 80 = .ok (.putfield 51, 3) := by decide +kernel
theorem dX9_init_83 : decode cX9_init 83 = .ok (.aload_n 0, 1) := by decide +kernel
theorem dX9_init_84 : decode cX9_init 84 = .ok (.new 55, 3) := by decide +kernel
theorem dX9_init_87 : decode cX9_init 87 = .ok (.dup, 1) := by decide +kernel
theorem dX9_init_88 : decode cX9_init 88 = .ok (.aload_n 0, 1) := by decide +kernel
theorem dX9_init_89 : decode cX9_init 89 = .ok (.getfield 10, 3) := by decide +kernel
theorem dX9_init_92 : decode cX9_init 92 = .ok (.aload_n 0, 1) := by decide +kernel
theorem dX9_init_93 : decode cX9_init 93 = .ok (.getfield 51, 3) := by decide +kernel
theorem dX9_init_96 : decode cX9_init 96 = .ok (.invokespecial 57, 3) := by decide +kernel
theorem dX9_init_99 : decode cX9_init 99 = .ok (.putfield 60, 3) := by decide +kernel
theorem dX9_init_102 : decode cX9_init 102 = .ok (.aload_n 0, 1) := by decide +kernel
theorem dX9_init_103 : decode cX9_init 103 = .ok (.new 64, 3) := by decide +kernel
theorem dX9_init_106 : decode cX9_init 106 = .ok (.dup, 1) := by decide +kernel
theorem dX9_init_107 : decode cX9_init 107 = .ok (.aload_n 0, 1) := by decide +kernel
theorem dX9_init_108 : decode cX9_init 108 = .ok (.getfield 60, 3) := by decide +kernel
theorem dX9_init_111 : decode cX9_init 111 = .ok (.invokespecial 66, 3) := by decide +kernel
theorem dX9_init_114 : decode cX9_init 114 = .ok (.putfield 69, 3) := by decide +kernel
theorem dX9_init_117 : decode cX9_init 117 = .ok (.aload_n 0, 1) := by decide +kernel
theorem dX9_init_118 : decode cX9_init 118 = .ok (.new 73, 3) := by decide +kernel
theorem dX9_init_121 : decode cX9_init 121 = .ok (.dup, 1) := by decide +kernel
theorem dX9_init_122 : decode cX9_init 122 = .ok (.invokespecial 75, 3) := by decide +kernel
theorem dX9_init_125 : decode cX9_init 125 = .ok (.putfield 76, 3) := by decide +kernel
theorem dX9_init_128 : decode cX9_init 128 = .ok (.return_, 1) := by decide +kernel
theorem dX9_set_0 : decode cX9_set 0 = .ok (.iload_n 3, 1) := by decide +kernel
theorem dX9_set_1 : decode cX9_set 1 = .ok (.ifCond .lt 11, 3) := by decide +kernel
theorem dX9_set_4 : decode cX9_set 4 = .ok (.iload_n 3, 1) := by decide +kernel
theorem dX9_set_5 : decode cX9_set 5 = .ok (.iload_n 1, 1) := by decide +kernel
theorem dX9_set_6 : decode cX9_set 6 = .ok (.invokestatic 80, 3) := by decide +kernel
theorem dX9_set_9 : decode cX9_set 9 = .ok (.if_icmp .le 6, 3) := by decide +kernel
theorem dX9_set_12 : decode cX9_set 12 = .ok (.bipush (-2), 2) := by decide +kernel
theorem dX9_set_14 : decode cX9_set 14 = .ok (.ireturn, 1) := by decide +kernel
theorem dX9_set_15 : decode cX9_set 15 = .ok (.iload_n 1, 1) := by decide +kernel
theorem dX9_set_16 : decode cX9_set 16 = .ok (.iconst 2, 1) := by decide +kernel
theorem dX9_set_17 : decode cX9_set 17 = .ok (.if_icmp .lt 17, 3) := by decide +kernel
theorem dX9_set_20 : decode cX9_set 20 = .ok (.aload_n 0, 1) := by decide +kernel
theorem dX9_set_21 : decode cX9_set 21 = .ok (.getfield 10, 3) := by decide +kernel
theorem dX9_set_24 : decode cX9_set 24 = .ok (.iload_n 2, 1) := by decide +kernel
theorem dX9_set_25 : decode cX9_set 25 = .ok (.invokevirtual 84, 3) := by decide +kernel
theorem dX9_set_28 : decode cX9_set 28 = .ok (.ifCond .ne 6, 3) := by decide +kernel
theorem dX9_set_31 : decode cX9_set 31 = .ok (.bipush (-2), 2) := by decide +kernel
theorem dX9_set_33 : decode cX9_set 33 = .ok (.ireturn, 1) := by decide +kernel
theorem dX9_set_34 : decode cX9_set 34 = .ok (.aload_n 0, 1) := by decide +kernel
theorem dX9_set_35 : decode cX9_set 35 = .ok (.getfield 10, 3) := by decide +kernel
theorem dX9_set_38 : decode cX9_set 38 = .ok (.iload_n 1, 1) := by decide +kernel
theorem dX9_set_39 : decode cX9_set 39 = .ok (.iload_n 2, 1) := by decide +kernel
theorem dX9_set_40 : decode cX9_set 40 = .ok (.invokevirtual 88, 3) := by decide +kernel
theorem dX9_set_43 : decode cX9_set 43 = .ok (.istore 4, 2) := by decide +kernel
theorem dX9_set_45 : decode cX9_set 45 = .ok (.aload_n 0, 1) := by decide +kernel
theorem dX9_set_46 : decode cX9_set 46 = .ok (.getfield 10, 3) := by decide +kernel
theorem dX9_set_49 : decode cX9_set 49 = .ok (.iload_n 1, 1) := by decide +kernel
theorem dX9_set_50 : decode cX9_set 50 = .ok (.iload_n 2, 1) := by decide +kernel
theorem dX9_set_51 : decode cX9_set 51 = .ok (.iload_n 3, 1) := by decide +kernel
theorem dX9_set_52 : decode cX9_set 52 = .ok (.invokevirtual 92, 3) := by decide +kernel
theorem dX9_set_55 : decode cX9_set 55 = .ok (.iload 4, 2) := by decide +kernel
theorem dX9_set_57 : decode cX9_set 57 = .ok (.ireturn, 1) := by decide +kernel
theorem dX9_mostOf_0 : decode cX9_mostOf 0 = .ok (.iload_n 0, 1) := by decide +kernel
theorem dX9_mostOf_1 : decode cX9_mostOf 1 = .ok (.tableswitch 50 0 4 #[35, 39, 42, 45, 47], 35) := by decide +kernel
theorem dX9_mostOf_36 : decode cX9_mostOf 36 = .ok (.sipush 400, 3) := by decide +kernel
theorem dX9_mostOf_39 : decode cX9_mostOf 39 = .ok (.ireturn, 1) := by decide +kernel
theorem dX9_mostOf_40 : decode cX9_mostOf 40 = .ok (.bipush 15, 2) := by decide +kernel
theorem dX9_mostOf_42 : decode cX9_mostOf 42 = .ok (.ireturn, 1) := by decide +kernel
theorem dX9_mostOf_43 : decode cX9_mostOf 43 = .ok (.bipush 9, 2) := by decide +kernel
theorem dX9_mostOf_45 : decode cX9_mostOf 45 = .ok (.ireturn, 1) := by decide +kernel
theorem dX9_mostOf_46 : decode cX9_mostOf 46 = .ok (.iconst 4, 1) := by decide +kernel
theorem dX9_mostOf_47 : decode cX9_mostOf 47 = .ok (.ireturn, 1) := by decide +kernel
theorem dX9_mostOf_48 : decode cX9_mostOf 48 = .ok (.bipush 40, 2) := by decide +kernel
theorem dX9_mostOf_50 : decode cX9_mostOf 50 = .ok (.ireturn, 1) := by decide +kernel
theorem dX9_mostOf_51 : decode cX9_mostOf 51 = .ok (.iconst (-1), 1) := by decide +kernel
theorem dX9_mostOf_52 : decode cX9_mostOf 52 = .ok (.ireturn, 1) := by decide +kernel
theorem dX9_flower_0 : decode cX9_flower 0 = .ok (.aload_n 0, 1) := by decide +kernel
theorem dX9_flower_1 : decode cX9_flower 1 = .ok (.getfield 10, 3) := by decide +kernel
theorem dX9_flower_4 : decode cX9_flower 4 = .ok (.iload_n 1, 1) := by decide +kernel
theorem dX9_flower_5 : decode cX9_flower 5 = .ok (.iload_n 2, 1) := by decide +kernel
theorem dX9_flower_6 : decode cX9_flower 6 = .ok (.invokevirtual 96, 3) := by decide +kernel
theorem dX9_flower_9 : decode cX9_flower 9 = .ok (.ireturn, 1) := by decide +kernel
theorem dX9_told_0 : decode cX9_told 0 = .ok (.iload_n 2, 1) := by decide +kernel
theorem dX9_told_1 : decode cX9_told 1 = .ok (.ifCond .eq 8, 3) := by decide +kernel
theorem dX9_told_4 : decode cX9_told 4 = .ok (.iload_n 2, 1) := by decide +kernel
theorem dX9_told_5 : decode cX9_told 5 = .ok (.iconst 1, 1) := by decide +kernel
theorem dX9_told_6 : decode cX9_told 6 = .ok (.if_icmp .ne 13, 3) := by decide +kernel
theorem dX9_told_9 : decode cX9_told 9 = .ok (.aload_n 0, 1) := by decide +kernel
theorem dX9_told_10 : decode cX9_told 10 = .ok (.getfield 10, 3) := by decide +kernel
theorem dX9_told_13 : decode cX9_told 13 = .ok (.iload_n 2, 1) := by decide +kernel
theorem dX9_told_14 : decode cX9_told 14 = .ok (.iload_n 1, 1) := by decide +kernel
theorem dX9_told_15 : decode cX9_told 15 = .ok (.invokevirtual 88, 3) := by decide +kernel
theorem dX9_told_18 : decode cX9_told 18 = .ok (.ireturn, 1) := by decide +kernel
theorem dX9_told_19 : decode cX9_told 19 = .ok (.iload_n 2, 1) := by decide +kernel
theorem dX9_told_20 : decode cX9_told 20 = .ok (.ifCond .lt 20, 3) := by decide +kernel
theorem dX9_told_23 : decode cX9_told 23 = .ok (.iload_n 2, 1) := by decide +kernel
theorem dX9_told_24 : decode cX9_told 24 = .ok (.bipush 9, 2) := by decide +kernel
theorem dX9_told_26 : decode cX9_told 26 = .ok (.if_icmp .gt 14, 3) := by decide +kernel
theorem dX9_told_29 : decode cX9_told 29 = .ok (.aload_n 0, 1) := by decide +kernel
theorem dX9_told_30 : decode cX9_told 30 = .ok (.getfield 10, 3) := by decide +kernel
theorem dX9_told_33 : decode cX9_told 33 = .ok (.iload_n 1, 1) := by decide +kernel
theorem dX9_told_34 : decode cX9_told 34 = .ok (.invokevirtual 84, 3) := by decide +kernel
theorem dX9_told_37 : decode cX9_told 37 = .ok (.ifCond .ne 6, 3) := by decide +kernel
theorem dX9_told_40 : decode cX9_told 40 = .ok (.bipush (-2), 2) := by decide +kernel
theorem dX9_told_42 : decode cX9_told 42 = .ok (.ireturn, 1) := by decide +kernel
theorem dX9_told_43 : decode cX9_told 43 = .ok (.aload_n 0, 1) := by decide +kernel
theorem dX9_told_44 : decode cX9_told 44 = .ok (.getfield 51, 3) := by decide +kernel
theorem dX9_told_47 : decode cX9_told 47 = .ok (.aload_n 0, 1) := by decide +kernel
theorem dX9_told_48 : decode cX9_told 48 = .ok (.getfield 10, 3) := by decide +kernel
theorem dX9_told_51 : decode cX9_told 51 = .ok (.iload_n 1, 1) := by decide +kernel
theorem dX9_told_52 : decode cX9_told 52 = .ok (.invokevirtual 99, 3) := by decide +kernel
theorem dX9_told_55 : decode cX9_told 55 = .ok (.iload_n 2, 1) := by decide +kernel
theorem dX9_told_56 : decode cX9_told 56 = .ok (.tableswitch 78 5 9 #[36, 46, 54, 62, 70], 36) := by decide +kernel
theorem dX9_told_92 : decode cX9_told 92 = .ok (.aload_n 0, 1) := by decide +kernel
theorem dX9_told_93 : decode cX9_told 93 = .ok (.getfield 10, 3) := by decide +kernel
theorem dX9_told_96 : decode cX9_told 96 = .ok (.getfield 103, 3) := by decide +kernel
theorem dX9_told_99 : decode cX9_told 99 = .ok (.iload_n 1, 1) := by decide +kernel
theorem dX9_told_100 : decode cX9_told 100 = .ok (.iaload, 1) := by decide +kernel
theorem dX9_told_101 : decode cX9_told 101 = .ok (.ireturn, 1) := by decide +kernel
theorem dX9_told_102 : decode cX9_told 102 = .ok (.aload_n 0, 1) := by decide +kernel
theorem dX9_told_103 : decode cX9_told 103 = .ok (.getfield 51, 3) := by decide +kernel
theorem dX9_told_106 : decode cX9_told 106 = .ok (.invokevirtual 107, 3) := by decide +kernel
theorem dX9_told_109 : decode cX9_told 109 = .ok (.ireturn, 1) := by decide +kernel
theorem dX9_told_110 : decode cX9_told 110 = .ok (.aload_n 0, 1) := by decide +kernel
theorem dX9_told_111 : decode cX9_told 111 = .ok (.getfield 51, 3) := by decide +kernel
theorem dX9_told_114 : decode cX9_told 114 = .ok (.invokevirtual 111, 3) := by decide +kernel
theorem dX9_told_117 : decode cX9_told 117 = .ok (.ireturn, 1) := by decide +kernel
theorem dX9_told_118 : decode cX9_told 118 = .ok (.aload_n 0, 1) := by decide +kernel
theorem dX9_told_119 : decode cX9_told 119 = .ok (.getfield 51, 3) := by decide +kernel
theorem dX9_told_122 : decode cX9_told 122 = .ok (.invokevirtual 114, 3) := by decide +kernel
theorem dX9_told_125 : decode cX9_told 125 = .ok (.ireturn, 1) := by decide +kernel
theorem dX9_told_126 : decode cX9_told 126 = .ok (.aload_n 0, 1) := by decide +kernel
theorem dX9_told_127 : decode cX9_told 127 = .ok (.getfield 51, 3) := by decide +kernel
theorem dX9_told_130 : decode cX9_told 130 = .ok (.invokevirtual 117, 3) := by decide +kernel
theorem dX9_told_133 : decode cX9_told 133 = .ok (.ireturn, 1) := by decide +kernel
theorem dX9_told_134 : decode cX9_told 134 = .ok (.aload_n 0, 1) := by decide +kernel
theorem dX9_told_135 : decode cX9_told 135 = .ok (.getfield 10, 3) := by decide +kernel
theorem dX9_told_138 : decode cX9_told 138 = .ok (.iload_n 2, 1) := by decide +kernel
theorem dX9_told_139 : decode cX9_told 139 = .ok (.iload_n 1, 1) := by decide +kernel
theorem dX9_told_140 : decode cX9_told 140 = .ok (.invokevirtual 88, 3) := by decide +kernel
theorem dX9_told_143 : decode cX9_told 143 = .ok (.ireturn, 1) := by decide +kernel
theorem dX9_feed_0 : decode cX9_feed 0 = .ok (.iload_n 1, 1) := by decide +kernel
theorem dX9_feed_1 : decode cX9_feed 1 = .ok (.ifCond .lt 10, 3) := by decide +kernel
theorem dX9_feed_4 : decode cX9_feed 4 = .ok (.iload_n 1, 1) := by decide +kernel
theorem dX9_feed_5 : decode cX9_feed 5 = .ok (.sipush 255, 3) := by decide +kernel
theorem dX9_feed_8 : decode cX9_feed 8 = .ok (.if_icmp .le 6, 3) := by decide +kernel
theorem dX9_feed_11 : decode cX9_feed 11 = .ok (.bipush (-2), 2) := by decide +kernel
theorem dX9_feed_13 : decode cX9_feed 13 = .ok (.ireturn, 1) := by decide +kernel
theorem dX9_feed_14 : decode cX9_feed 14 = .ok (.aload_n 0, 1) := by decide +kernel
theorem dX9_feed_15 : decode cX9_feed 15 = .ok (.getfield 26, 3) := by decide +kernel
theorem dX9_feed_18 : decode cX9_feed 18 = .ok (.iload_n 1, 1) := by decide +kernel
theorem dX9_feed_19 : decode cX9_feed 19 = .ok (.invokevirtual 120, 3) := by decide +kernel
theorem dX9_feed_22 : decode cX9_feed 22 = .ok (.ifCond .eq 13, 3) := by decide +kernel
theorem dX9_feed_25 : decode cX9_feed 25 = .ok (.aload_n 0, 1) := by decide +kernel
theorem dX9_feed_26 : decode cX9_feed 26 = .ok (.getfield 26, 3) := by decide +kernel
theorem dX9_feed_29 : decode cX9_feed 29 = .ok (.getfield 123, 3) := by decide +kernel
theorem dX9_feed_32 : decode cX9_feed 32 = .ok (.goto 5, 3) := by decide +kernel
theorem dX9_feed_35 : decode cX9_feed 35 = .ok (.bipush (-4), 2) := by decide +kernel
theorem dX9_feed_37 : decode cX9_feed 37 = .ok (.ireturn, 1) := by decide +kernel
theorem dX9_text_0 : decode cX9_text 0 = .ok (.aload_n 0, 1) := by decide +kernel
theorem dX9_text_1 : decode cX9_text 1 = .ok (.getfield 33, 3) := by decide +kernel
theorem dX9_text_4 : decode cX9_text 4 = .ok (.invokevirtual 127, 3) := by decide +kernel
theorem dX9_text_7 : decode cX9_text 7 = .ok (.ifCond .eq 6, 3) := by decide +kernel
theorem dX9_text_10 : decode cX9_text 10 = .ok (.bipush (-4), 2) := by decide +kernel
theorem dX9_text_12 : decode cX9_text 12 = .ok (.ireturn, 1) := by decide +kernel
theorem dX9_text_13 : decode cX9_text 13 = .ok (.aload_n 0, 1) := by decide +kernel
theorem dX9_text_14 : decode cX9_text 14 = .ok (.getfield 42, 3) := by decide +kernel
theorem dX9_text_17 : decode cX9_text 17 = .ok (.invokevirtual 131, 3) := by decide +kernel
theorem dX9_text_20 : decode cX9_text 20 = .ok (.istore_n 1, 1) := by decide +kernel
theorem dX9_text_21 : decode cX9_text 21 = .ok (.aload_n 0, 1) := by decide +kernel
theorem dX9_text_22 : decode cX9_text 22 = .ok (.getfield 26, 3) := by decide +kernel
theorem dX9_text_25 : decode cX9_text 25 = .ok (.invokevirtual 134, 3) := by decide +kernel
theorem dX9_text_28 : decode cX9_text 28 = .ok (.iload_n 1, 1) := by decide +kernel
theorem dX9_text_29 : decode cX9_text 29 = .ok (.iconst (-1), 1) := by decide +kernel
theorem dX9_text_30 : decode cX9_text 30 = .ok (.if_icmp .ne 17, 3) := by decide +kernel
theorem dX9_text_33 : decode cX9_text 33 = .ok (.aload_n 0, 1) := by decide +kernel
theorem dX9_text_34 : decode cX9_text 34 = .ok (.getfield 33, 3) := by decide +kernel
theorem dX9_text_37 : decode cX9_text 37 = .ok (.aload_n 0, 1) := by decide +kernel
theorem dX9_text_38 : decode cX9_text 38 = .ok (.getfield 42, 3) := by decide +kernel
theorem dX9_text_41 : decode cX9_text 41 = .ok (.invokevirtual 137, 3) := by decide +kernel
theorem dX9_text_44 : decode cX9_text 44 = .ok (.goto 7, 3) := by decide +kernel
theorem dX9_text_47 : decode cX9_text 47 = .ok (.bipush (-100), 2) := by decide +kernel
theorem dX9_text_49 : decode cX9_text 49 = .ok (.iload_n 1, 1) := by decide +kernel
theorem dX9_text_50 : decode cX9_text 50 = .ok (.isub, 1) := by decide +kernel
theorem dX9_text_51 : decode cX9_text 51 = .ok (.ireturn, 1) := by decide +kernel
theorem dX9_force_0 : decode cX9_force 0 = .ok (.aload_n 0, 1) := by decide +kernel
theorem dX9_force_1 : decode cX9_force 1 = .ok (.getfield 33, 3) := by decide +kernel
theorem dX9_force_4 : decode cX9_force 4 = .ok (.iload_n 1, 1) := by decide +kernel
theorem dX9_force_5 : decode cX9_force 5 = .ok (.invokevirtual 140, 3) := by decide +kernel
theorem dX9_force_8 : decode cX9_force 8 = .ok (.ifCond .ne 6, 3) := by decide +kernel
theorem dX9_force_11 : decode cX9_force 11 = .ok (.bipush (-2), 2) := by decide +kernel
theorem dX9_force_13 : decode cX9_force 13 = .ok (.ireturn, 1) := by decide +kernel
theorem dX9_force_14 : decode cX9_force 14 = .ok (.aload_n 0, 1) := by decide +kernel
theorem dX9_force_15 : decode cX9_force 15 = .ok (.getfield 10, 3) := by decide +kernel
theorem dX9_force_18 : decode cX9_force 18 = .ok (.getfield 143, 3) := by decide +kernel
theorem dX9_force_21 : decode cX9_force 21 = .ok (.istore_n 2, 1) := by decide +kernel
theorem dX9_force_22 : decode cX9_force 22 = .ok (.aload_n 0, 1) := by decide +kernel
theorem dX9_force_23 : decode cX9_force 23 = .ok (.getfield 10, 3) := by decide +kernel
theorem dX9_force_26 : decode cX9_force 26 = .ok (.iload_n 1, 1) := by decide +kernel
theorem dX9_force_27 : decode cX9_force 27 = .ok (.putfield 143, 3) := by decide +kernel
theorem dX9_force_30 : decode cX9_force 30 = .ok (.iload_n 2, 1) := by decide +kernel
theorem dX9_force_31 : decode cX9_force 31 = .ok (.ireturn, 1) := by decide +kernel
theorem dX9_lay_0 : decode cX9_lay 0 = .ok (.aload_n 0, 1) := by decide +kernel
theorem dX9_lay_1 : decode cX9_lay 1 = .ok (.getfield 10, 3) := by decide +kernel
theorem dX9_lay_4 : decode cX9_lay 4 = .ok (.iload_n 1, 1) := by decide +kernel
theorem dX9_lay_5 : decode cX9_lay 5 = .ok (.invokevirtual 84, 3) := by decide +kernel
theorem dX9_lay_8 : decode cX9_lay 8 = .ok (.ifCond .ne 6, 3) := by decide +kernel
theorem dX9_lay_11 : decode cX9_lay 11 = .ok (.bipush (-2), 2) := by decide +kernel
theorem dX9_lay_13 : decode cX9_lay 13 = .ok (.ireturn, 1) := by decide +kernel
theorem dX9_lay_14 : decode cX9_lay 14 = .ok (.aload_n 0, 1) := by decide +kernel
theorem dX9_lay_15 : decode cX9_lay 15 = .ok (.getfield 10, 3) := by decide +kernel
theorem dX9_lay_18 : decode cX9_lay 18 = .ok (.getfield 146, 3) := by decide +kernel
theorem dX9_lay_21 : decode cX9_lay 21 = .ok (.iload_n 1, 1) := by decide +kernel
theorem dX9_lay_22 : decode cX9_lay 22 = .ok (.iaload, 1) := by decide +kernel
theorem dX9_lay_23 : decode cX9_lay 23 = .ok (.iconst 1, 1) := by decide +kernel
theorem dX9_lay_24 : decode cX9_lay 24 = .ok (.if_icmp .ge 6, 3) := by decide +kernel
theorem dX9_lay_27 : decode cX9_lay 27 = .ok (.bipush (-3), 2) := by decide +kernel
theorem dX9_lay_29 : decode cX9_lay 29 = .ok (.ireturn, 1) := by decide +kernel
theorem dX9_lay_30 : decode cX9_lay 30 = .ok (.aload_n 0, 1) := by decide +kernel
theorem dX9_lay_31 : decode cX9_lay 31 = .ok (.getfield 60, 3) := by decide +kernel
theorem dX9_lay_34 : decode cX9_lay 34 = .ok (.invokevirtual 149, 3) := by decide +kernel
theorem dX9_lay_37 : decode cX9_lay 37 = .ok (.aload_n 0, 1) := by decide +kernel
theorem dX9_lay_38 : decode cX9_lay 38 = .ok (.getfield 60, 3) := by decide +kernel
theorem dX9_lay_41 : decode cX9_lay 41 = .ok (.iload_n 1, 1) := by decide +kernel
theorem dX9_lay_42 : decode cX9_lay 42 = .ok (.invokevirtual 152, 3) := by decide +kernel
theorem dX9_lay_45 : decode cX9_lay 45 = .ok (.ifCond .ne 6, 3) := by decide +kernel
theorem dX9_lay_48 : decode cX9_lay 48 = .ok (.bipush (-4), 2) := by decide +kernel
theorem dX9_lay_50 : decode cX9_lay 50 = .ok (.ireturn, 1) := by decide +kernel
theorem dX9_lay_51 : decode cX9_lay 51 = .ok (.aload_n 0, 1) := by decide +kernel
theorem dX9_lay_52 : decode cX9_lay 52 = .ok (.getfield 60, 3) := by decide +kernel
theorem dX9_lay_55 : decode cX9_lay 55 = .ok (.iload_n 1, 1) := by decide +kernel
theorem dX9_lay_56 : decode cX9_lay 56 = .ok (.invokevirtual 155, 3) := by decide +kernel
theorem dX9_lay_59 : decode cX9_lay 59 = .ok (.istore_n 2, 1) := by decide +kernel
theorem dX9_lay_60 : decode cX9_lay 60 = .ok (.aload_n 0, 1) := by decide +kernel
theorem dX9_lay_61 : decode cX9_lay 61 = .ok (.getfield 10, 3) := by decide +kernel
theorem dX9_lay_64 : decode cX9_lay 64 = .ok (.iload_n 1, 1) := by decide +kernel
theorem dX9_lay_65 : decode cX9_lay 65 = .ok (.iload_n 2, 1) := by decide +kernel
theorem dX9_lay_66 : decode cX9_lay 66 = .ok (.invokevirtual 158, 3) := by decide +kernel
theorem dX9_lay_69 : decode cX9_lay 69 = .ok (.iload_n 2, 1) := by decide +kernel
theorem dX9_lay_70 : decode cX9_lay 70 = .ok (.ireturn, 1) := by decide +kernel
theorem dX9_draw_0 : decode cX9_draw 0 = .ok (.aload_n 0, 1) := by decide +kernel
theorem dX9_draw_1 : decode cX9_draw 1 = .ok (.getfield 10, 3) := by decide +kernel
theorem dX9_draw_4 : decode cX9_draw 4 = .ok (.iload_n 1, 1) := by decide +kernel
theorem dX9_draw_5 : decode cX9_draw 5 = .ok (.invokevirtual 162, 3) := by decide +kernel
theorem dX9_draw_8 : decode cX9_draw 8 = .ok (.ifCond .eq 14, 3) := by decide +kernel
theorem dX9_draw_11 : decode cX9_draw 11 = .ok (.aload_n 0, 1) := by decide +kernel
theorem dX9_draw_12 : decode cX9_draw 12 = .ok (.getfield 10, 3) := by decide +kernel
theorem dX9_draw_15 : decode cX9_draw 15 = .ok (.iload_n 1, 1) := by decide +kernel
theorem dX9_draw_16 : decode cX9_draw 16 = .ok (.invokevirtual 165, 3) := by decide +kernel
theorem dX9_draw_19 : decode cX9_draw 19 = .ok (.goto 5, 3) := by decide +kernel
theorem dX9_draw_22 : decode cX9_draw 22 = .ok (.bipush (-2), 2) := by decide +kernel
theorem dX9_draw_24 : decode cX9_draw 24 = .ok (.ireturn, 1) := by decide +kernel
theorem dX9_stem_0 : decode cX9_stem 0 = .ok (.aload_n 0, 1) := by decide +kernel
theorem dX9_stem_1 : decode cX9_stem 1 = .ok (.getfield 10, 3) := by decide +kernel
theorem dX9_stem_4 : decode cX9_stem 4 = .ok (.iload_n 1, 1) := by decide +kernel
theorem dX9_stem_5 : decode cX9_stem 5 = .ok (.invokevirtual 162, 3) := by decide +kernel
theorem dX9_stem_8 : decode cX9_stem 8 = .ok (.ifCond .eq 12, 3) := by decide +kernel
theorem dX9_stem_11 : decode cX9_stem 11 = .ok (.iload_n 2, 1) := by decide +kernel
theorem dX9_stem_12 : decode cX9_stem 12 = .ok (.ifCond .lt 8, 3) := by decide +kernel
theorem dX9_stem_15 : decode cX9_stem 15 = .ok (.iload_n 2, 1) := by decide +kernel
theorem dX9_stem_16 : decode cX9_stem 16 = .ok (.iconst 1, 1) := by decide +kernel
theorem dX9_stem_17 : decode cX9_stem 17 = .ok (.if_icmp .le 6, 3) := by decide +kernel
theorem dX9_stem_20 : decode cX9_stem 20 = .ok (.bipush (-2), 2) := by decide +kernel
theorem dX9_stem_22 : decode cX9_stem 22 = .ok (.ireturn, 1) := by decide +kernel
theorem dX9_stem_23 : decode cX9_stem 23 = .ok (.iload_n 2, 1) := by decide +kernel
theorem dX9_stem_24 : decode cX9_stem 24 = .ok (.ifCond .ne 15, 3) := by decide +kernel
theorem dX9_stem_27 : decode cX9_stem 27 = .ok (.aload_n 0, 1) := by decide +kernel
theorem dX9_stem_28 : decode cX9_stem 28 = .ok (.getfield 10, 3) := by decide +kernel
theorem dX9_stem_31 : decode cX9_stem 31 = .ok (.getfield 168, 3) := by decide +kernel
theorem dX9_stem_34 : decode cX9_stem 34 = .ok (.iload_n 1, 1) := by decide +kernel
theorem dX9_stem_35 : decode cX9_stem 35 = .ok (.iaload, 1) := by decide +kernel
theorem dX9_stem_36 : decode cX9_stem 36 = .ok (.goto 12, 3) := by decide +kernel
theorem dX9_stem_39 : decode cX9_stem 39 = .ok (.aload_n 0, 1) := by decide +kernel
theorem dX9_stem_40 : decode cX9_stem 40 = .ok (.getfield 10, 3) := by decide +kernel
theorem dX9_stem_43 : decode cX9_stem 43 = .ok (.getfield 171, 3) := by decide +kernel
theorem dX9_stem_46 : decode cX9_stem 46 = .ok (.iload_n 1, 1) := by decide +kernel
theorem dX9_stem_47 : decode cX9_stem 47 = .ok (.iaload, 1) := by decide +kernel
theorem dX9_stem_48 : decode cX9_stem 48 = .ok (.ireturn, 1) := by decide +kernel
theorem dX9_bunch_0 : decode cX9_bunch 0 = .ok (.iload_n 1, 1) := by decide +kernel
theorem dX9_bunch_1 : decode cX9_bunch 1 = .ok (.iconst 4, 1) := by decide +kernel
theorem dX9_bunch_2 : decode cX9_bunch 2 = .ok (.if_icmp .lt 20, 3) := by decide +kernel
theorem dX9_bunch_5 : decode cX9_bunch 5 = .ok (.iload_n 1, 1) := by decide +kernel
theorem dX9_bunch_6 : decode cX9_bunch 6 = .ok (.bipush 8, 2) := by decide +kernel
theorem dX9_bunch_8 : decode cX9_bunch 8 = .ok (.if_icmp .ge 14, 3) := by decide +kernel
theorem dX9_bunch_11 : decode cX9_bunch 11 = .ok (.aload_n 0, 1) := by decide +kernel
theorem dX9_bunch_12 : decode cX9_bunch 12 = .ok (.getfield 10, 3) := by decide +kernel
theorem dX9_bunch_15 : decode cX9_bunch 15 = .ok (.iload_n 1, 1) := by decide +kernel
theorem dX9_bunch_16 : decode cX9_bunch 16 = .ok (.iconst 4, 1) := by decide +kernel
theorem dX9_bunch_17 : decode cX9_bunch 17 = .ok (.isub, 1) := by decide +kernel
theorem dX9_bunch_18 : decode cX9_bunch 18 = .ok (.invokevirtual 174, 3) := by decide +kernel
theorem dX9_bunch_21 : decode cX9_bunch 21 = .ok (.ireturn, 1) := by decide +kernel
theorem dX9_bunch_22 : decode cX9_bunch 22 = .ok (.iload_n 1, 1) := by decide +kernel
theorem dX9_bunch_23 : decode cX9_bunch 23 = .ok (.bipush 10, 2) := by decide +kernel
theorem dX9_bunch_25 : decode cX9_bunch 25 = .ok (.if_icmp .lt 21, 3) := by decide +kernel
theorem dX9_bunch_28 : decode cX9_bunch 28 = .ok (.iload_n 1, 1) := by decide +kernel
theorem dX9_bunch_29 : decode cX9_bunch 29 = .ok (.bipush 15, 2) := by decide +kernel
theorem dX9_bunch_31 : decode cX9_bunch 31 = .ok (.if_icmp .ge 15, 3) := by decide +kernel
theorem dX9_bunch_34 : decode cX9_bunch 34 = .ok (.aload_n 0, 1) := by decide +kernel
theorem dX9_bunch_35 : decode cX9_bunch 35 = .ok (.getfield 10, 3) := by decide +kernel
theorem dX9_bunch_38 : decode cX9_bunch 38 = .ok (.iload_n 1, 1) := by decide +kernel
theorem dX9_bunch_39 : decode cX9_bunch 39 = .ok (.bipush 10, 2) := by decide +kernel
theorem dX9_bunch_41 : decode cX9_bunch 41 = .ok (.isub, 1) := by decide +kernel
theorem dX9_bunch_42 : decode cX9_bunch 42 = .ok (.invokevirtual 177, 3) := by decide +kernel
theorem dX9_bunch_45 : decode cX9_bunch 45 = .ok (.ireturn, 1) := by decide +kernel
theorem dX9_bunch_46 : decode cX9_bunch 46 = .ok (.iload_n 1, 1) := by decide +kernel
theorem dX9_bunch_47 : decode cX9_bunch 47 = .ok (.tableswitch 52 0 3 #[29, 34, 39, 44], 29) := by decide +kernel
theorem dX9_bunch_76 : decode cX9_bunch 76 = .ok (.aload_n 0, 1) := by decide +kernel
theorem dX9_bunch_77 : decode cX9_bunch 77 = .ok (.invokevirtual 180, 3) := by decide +kernel
theorem dX9_bunch_80 : decode cX9_bunch 80 = .ok (.ireturn, 1) := by decide +kernel
theorem dX9_bunch_81 : decode cX9_bunch 81 = .ok (.aload_n 0, 1) := by decide +kernel
theorem dX9_bunch_82 : decode cX9_bunch 82 = .ok (.invokevirtual 183, 3) := by decide +kernel
theorem dX9_bunch_85 : decode cX9_bunch 85 = .ok (.ireturn, 1) := by decide +kernel
theorem dX9_bunch_86 : decode cX9_bunch 86 = .ok (.aload_n 0, 1) := by decide +kernel
theorem dX9_bunch_87 : decode cX9_bunch 87 = .ok (.invokevirtual 186, 3) := by decide +kernel
theorem dX9_bunch_90 : decode cX9_bunch 90 = .ok (.ireturn, 1) := by decide +kernel
theorem dX9_bunch_91 : decode cX9_bunch 91 = .ok (.aload_n 0, 1) := by decide +kernel
theorem dX9_bunch_92 : decode cX9_bunch 92 = .ok (.getfield 10, 3) := by decide +kernel
theorem dX9_bunch_95 : decode cX9_bunch 95 = .ok (.invokevirtual 189, 3) := by decide +kernel
theorem dX9_bunch_98 : decode cX9_bunch 98 = .ok (.ireturn, 1) := by decide +kernel
theorem dX9_bunch_99 : decode cX9_bunch 99 = .ok (.ldc 192, 2) := by decide +kernel
theorem dX9_bunch_101 : decode cX9_bunch 101 = .ok (.ireturn, 1) := by decide +kernel
theorem dX9_touchingNow_0 : decode cX9_touchingNow 0 = .ok (.aload_n 0, 1) := by decide +kernel
theorem dX9_touchingNow_1 : decode cX9_touchingNow 1 = .ok (.getfield 60, 3) := by decide +kernel
theorem dX9_touchingNow_4 : decode cX9_touchingNow 4 = .ok (.invokevirtual 149, 3) := by decide +kernel
theorem dX9_touchingNow_7 : decode cX9_touchingNow 7 = .ok (.aload_n 0, 1) := by decide +kernel
theorem dX9_touchingNow_8 : decode cX9_touchingNow 8 = .ok (.getfield 60, 3) := by decide +kernel
theorem dX9_touchingNow_11 : decode cX9_touchingNow 11 = .ok (.getfield 193, 3) := by decide +kernel
theorem dX9_touchingNow_14 : decode cX9_touchingNow 14 = .ok (.ireturn, 1) := by decide +kernel
theorem dX9_unevenness_0 : decode cX9_unevenness 0 = .ok (.iconst 0, 1) := by decide +kernel
theorem dX9_unevenness_1 : decode cX9_unevenness 1 = .ok (.istore_n 1, 1) := by decide +kernel
theorem dX9_unevenness_2 : decode cX9_unevenness 2 = .ok (.bipush 40, 2) := by decide +kernel
theorem dX9_unevenness_4 : decode cX9_unevenness 4 = .ok (.istore_n 2, 1) := by decide +kernel
theorem dX9_unevenness_5 : decode cX9_unevenness 5 = .ok (.iconst 0, 1) := by decide +kernel
theorem dX9_unevenness_6 : decode cX9_unevenness 6 = .ok (.istore_n 3, 1) := by decide +kernel
theorem dX9_unevenness_7 : decode cX9_unevenness 7 = .ok (.iload_n 3, 1) := by decide +kernel
theorem dX9_unevenness_8 : decode cX9_unevenness 8 = .ok (.iconst 4, 1) := by decide +kernel
theorem dX9_unevenness_9 : decode cX9_unevenness 9 = .ok (.if_icmp .ge 33, 3) := by decide +kernel
theorem dX9_unevenness_12 : decode cX9_unevenness 12 = .ok (.aload_n 0, 1) := by decide +kernel
theorem dX9_unevenness_13 : decode cX9_unevenness 13 = .ok (.getfield 10, 3) := by decide +kernel
theorem dX9_unevenness_16 : decode cX9_unevenness 16 = .ok (.iload_n 3, 1) := by decide +kernel
theorem dX9_unevenness_17 : decode cX9_unevenness 17 = .ok (.invokevirtual 174, 3) := by decide +kernel
theorem dX9_unevenness_20 : decode cX9_unevenness 20 = .ok (.istore 4, 2) := by decide +kernel
theorem dX9_unevenness_22 : decode cX9_unevenness 22 = .ok (.iload_n 1, 1) := by decide +kernel
theorem dX9_unevenness_23 : decode cX9_unevenness 23 = .ok (.iload 4, 2) := by decide +kernel
theorem dX9_unevenness_25 : decode cX9_unevenness 25 = .ok (.invokestatic 196, 3) := by decide +kernel
theorem dX9_unevenness_28 : decode cX9_unevenness 28 = .ok (.istore_n 1, 1) := by decide +kernel
theorem dX9_unevenness_29 : decode cX9_unevenness 29 = .ok (.iload_n 2, 1) := by decide +kernel
theorem dX9_unevenness_30 : decode cX9_unevenness 30 = .ok (.iload 4, 2) := by decide +kernel
theorem dX9_unevenness_32 : decode cX9_unevenness 32 = .ok (.invokestatic 201, 3) := by decide +kernel
theorem dX9_unevenness_35 : decode cX9_unevenness 35 = .ok (.istore_n 2, 1) := by decide +kernel
theorem dX9_unevenness_36 : decode cX9_unevenness 36 = .ok (.iinc 3 1, 3) := by decide +kernel
theorem dX9_unevenness_39 : decode cX9_unevenness 39 = .ok (.goto (-32), 3) := by decide +kernel
theorem dX9_unevenness_42 : decode cX9_unevenness 42 = .ok (.iload_n 1, 1) := by decide +kernel
theorem dX9_unevenness_43 : decode cX9_unevenness 43 = .ok (.iload_n 2, 1) := by decide +kernel
theorem dX9_unevenness_44 : decode cX9_unevenness 44 = .ok (.isub, 1) := by decide +kernel
theorem dX9_unevenness_45 : decode cX9_unevenness 45 = .ok (.ireturn, 1) := by decide +kernel
theorem dX9_costOfAll_0 : decode cX9_costOfAll 0 = .ok (.iconst 0, 1) := by decide +kernel
theorem dX9_costOfAll_1 : decode cX9_costOfAll 1 = .ok (.istore_n 1, 1) := by decide +kernel
theorem dX9_costOfAll_2 : decode cX9_costOfAll 2 = .ok (.iconst 0, 1) := by decide +kernel
theorem dX9_costOfAll_3 : decode cX9_costOfAll 3 = .ok (.istore_n 2, 1) := by decide +kernel
theorem dX9_costOfAll_4 : decode cX9_costOfAll 4 = .ok (.iload_n 2, 1) := by decide +kernel
theorem dX9_costOfAll_5 : decode cX9_costOfAll 5 = .ok (.aload_n 0, 1) := by decide +kernel
theorem dX9_costOfAll_6 : decode cX9_costOfAll 6 = .ok (.getfield 10, 3) := by decide +kernel
theorem dX9_costOfAll_9 : decode cX9_costOfAll 9 = .ok (.getfield 204, 3) := by decide +kernel
theorem dX9_costOfAll_12 : decode cX9_costOfAll 12 = .ok (.if_icmp .ge 40, 3) := by decide +kernel
theorem dX9_costOfAll_15 : decode cX9_costOfAll 15 = .ok (.aload_n 0, 1) := by decide +kernel
theorem dX9_costOfAll_16 : decode cX9_costOfAll 16 = .ok (.getfield 51, 3) := by decide +kernel
theorem dX9_costOfAll_19 : decode cX9_costOfAll 19 = .ok (.aload_n 0, 1) := by decide +kernel
theorem dX9_costOfAll_20 : decode cX9_costOfAll 20 = .ok (.getfield 10, 3) := by decide +kernel
theorem dX9_costOfAll_23 : decode cX9_costOfAll 23 = .ok (.iload_n 2, 1) := by decide +kernel
theorem dX9_costOfAll_24 : decode cX9_costOfAll 24 = .ok (.invokevirtual 99, 3) := by decide +kernel
theorem dX9_costOfAll_27 : decode cX9_costOfAll 27 = .ok (.iload_n 1, 1) := by decide +kernel
theorem dX9_costOfAll_28 : decode cX9_costOfAll 28 = .ok (.aload_n 0, 1) := by decide +kernel
theorem dX9_costOfAll_29 : decode cX9_costOfAll 29 = .ok (.getfield 51, 3) := by decide +kernel
theorem dX9_costOfAll_32 : decode cX9_costOfAll 32 = .ok (.invokevirtual 114, 3) := by decide +kernel
theorem dX9_costOfAll_35 : decode cX9_costOfAll 35 = .ok (.aload_n 0, 1) := by decide +kernel
theorem dX9_costOfAll_36 : decode cX9_costOfAll 36 = .ok (.getfield 10, 3) := by decide +kernel
theorem dX9_costOfAll_39 : decode cX9_costOfAll 39 = .ok (.iload_n 2, 1) := by decide +kernel
theorem dX9_costOfAll_40 : decode cX9_costOfAll 40 = .ok (.invokevirtual 207, 3) := by decide +kernel
theorem dX9_costOfAll_43 : decode cX9_costOfAll 43 = .ok (.imul, 1) := by decide +kernel
theorem dX9_costOfAll_44 : decode cX9_costOfAll 44 = .ok (.iadd, 1) := by decide +kernel
theorem dX9_costOfAll_45 : decode cX9_costOfAll 45 = .ok (.istore_n 1, 1) := by decide +kernel
theorem dX9_costOfAll_46 : decode cX9_costOfAll 46 = .ok (.iinc 2 1, 3) := by decide +kernel
theorem dX9_costOfAll_49 : decode cX9_costOfAll 49 = .ok (.goto (-45), 3) := by decide +kernel
theorem dX9_costOfAll_52 : decode cX9_costOfAll 52 = .ok (.iload_n 1, 1) := by decide +kernel
theorem dX9_costOfAll_53 : decode cX9_costOfAll 53 = .ok (.ireturn, 1) := by decide +kernel
theorem dX9_good_0 : decode cX9_good 0 = .ok (.iload_n 1, 1) := by decide +kernel
theorem dX9_good_1 : decode cX9_good 1 = .ok (.ifCond .lt 9, 3) := by decide +kernel
theorem dX9_good_4 : decode cX9_good 4 = .ok (.iload_n 1, 1) := by decide +kernel
theorem dX9_good_5 : decode cX9_good 5 = .ok (.bipush 99, 2) := by decide +kernel
theorem dX9_good_7 : decode cX9_good 7 = .ok (.if_icmp .le 6, 3) := by decide +kernel
theorem dX9_good_10 : decode cX9_good 10 = .ok (.bipush (-2), 2) := by decide +kernel
theorem dX9_good_12 : decode cX9_good 12 = .ok (.ireturn, 1) := by decide +kernel
theorem dX9_good_13 : decode cX9_good 13 = .ok (.iconst 0, 1) := by decide +kernel
theorem dX9_good_14 : decode cX9_good 14 = .ok (.istore_n 2, 1) := by decide +kernel
theorem dX9_good_15 : decode cX9_good 15 = .ok (.iconst 0, 1) := by decide +kernel
theorem dX9_good_16 : decode cX9_good 16 = .ok (.istore_n 3, 1) := by decide +kernel
theorem dX9_good_17 : decode cX9_good 17 = .ok (.iload_n 3, 1) := by decide +kernel
theorem dX9_good_18 : decode cX9_good 18 = .ok (.aload_n 0, 1) := by decide +kernel
theorem dX9_good_19 : decode cX9_good 19 = .ok (.getfield 10, 3) := by decide +kernel
theorem dX9_good_22 : decode cX9_good 22 = .ok (.getfield 204, 3) := by decide +kernel
theorem dX9_good_25 : decode cX9_good 25 = .ok (.if_icmp .ge 43, 3) := by decide +kernel
theorem dX9_good_28 : decode cX9_good 28 = .ok (.aload_n 0, 1) := by decide +kernel
theorem dX9_good_29 : decode cX9_good 29 = .ok (.getfield 51, 3) := by decide +kernel
theorem dX9_good_32 : decode cX9_good 32 = .ok (.aload_n 0, 1) := by decide +kernel
theorem dX9_good_33 : decode cX9_good 33 = .ok (.getfield 10, 3) := by decide +kernel
theorem dX9_good_36 : decode cX9_good 36 = .ok (.iload_n 3, 1) := by decide +kernel
theorem dX9_good_37 : decode cX9_good 37 = .ok (.invokevirtual 99, 3) := by decide +kernel
theorem dX9_good_40 : decode cX9_good 40 = .ok (.aload_n 0, 1) := by decide +kernel
theorem dX9_good_41 : decode cX9_good 41 = .ok (.getfield 51, 3) := by decide +kernel
theorem dX9_good_44 : decode cX9_good 44 = .ok (.invokevirtual 117, 3) := by decide +kernel
theorem dX9_good_47 : decode cX9_good 47 = .ok (.iload_n 1, 1) := by decide +kernel
theorem dX9_good_48 : decode cX9_good 48 = .ok (.if_icmp .lt 14, 3) := by decide +kernel
theorem dX9_good_51 : decode cX9_good 51 = .ok (.iload_n 2, 1) := by decide +kernel
theorem dX9_good_52 : decode cX9_good 52 = .ok (.aload_n 0, 1) := by decide +kernel
theorem dX9_good_53 : decode cX9_good 53 = .ok (.getfield 10, 3) := by decide +kernel
theorem dX9_good_56 : decode cX9_good 56 = .ok (.iload_n 3, 1) := by decide +kernel
theorem dX9_good_57 : decode cX9_good 57 = .ok (.invokevirtual 207, 3) := by decide +kernel
theorem dX9_good_60 : decode cX9_good 60 = .ok (.iadd, 1) := by decide +kernel
theorem dX9_good_61 : decode cX9_good 61 = .ok (.istore_n 2, 1) := by decide +kernel
theorem dX9_good_62 : decode cX9_good 62 = .ok (.iinc 3 1, 3) := by decide +kernel
theorem dX9_good_65 : decode cX9_good 65 = .ok (.goto (-48), 3) := by decide +kernel
theorem dX9_good_68 : decode cX9_good 68 = .ok (.iload_n 2, 1) := by decide +kernel
theorem dX9_good_69 : decode cX9_good 69 = .ok (.ireturn, 1) := by decide +kernel
theorem dX9_next_0 : decode cX9_next 0 = .ok (.iload_n 1, 1) := by decide +kernel
theorem dX9_next_1 : decode cX9_next 1 = .ok (.ifCond .lt 8, 3) := by decide +kernel
theorem dX9_next_4 : decode cX9_next 4 = .ok (.iload_n 1, 1) := by decide +kernel
theorem dX9_next_5 : decode cX9_next 5 = .ok (.iconst 1, 1) := by decide +kernel
theorem dX9_next_6 : decode cX9_next 6 = .ok (.if_icmp .le 6, 3) := by decide +kernel
theorem dX9_next_9 : decode cX9_next 9 = .ok (.bipush (-2), 2) := by decide +kernel
theorem dX9_next_11 : decode cX9_next 11 = .ok (.ireturn, 1) := by decide +kernel
theorem dX9_next_12 : decode cX9_next 12 = .ok (.aload_n 0, 1) := by decide +kernel
theorem dX9_next_13 : decode cX9_next 13 = .ok (.getfield 60, 3) := by decide +kernel
theorem dX9_next_16 : decode cX9_next 16 = .ok (.invokevirtual 149, 3) := by decide +kernel
theorem dX9_next_19 : decode cX9_next 19 = .ok (.iconst (-1), 1) := by decide +kernel
theorem dX9_next_20 : decode cX9_next 20 = .ok (.istore_n 2, 1) := by decide +kernel
theorem dX9_next_21 : decode cX9_next 21 = .ok (.aload_n 0, 1) := by decide +kernel
theorem dX9_next_22 : decode cX9_next 22 = .ok (.getfield 60, 3) := by decide +kernel
theorem dX9_next_25 : decode cX9_next 25 = .ok (.getfield 193, 3) := by decide +kernel
theorem dX9_next_28 : decode cX9_next 28 = .ok (.istore_n 3, 1) := by decide +kernel
theorem dX9_next_29 : decode cX9_next 29 = .ok (.iconst 0, 1) := by decide +kernel
theorem dX9_next_30 : decode cX9_next 30 = .ok (.istore 4, 2) := by decide +kernel
theorem dX9_next_32 : decode cX9_next 32 = .ok (.iload 4, 2) := by decide +kernel
theorem dX9_next_34 : decode cX9_next 34 = .ok (.aload_n 0, 1) := by decide +kernel
theorem dX9_next_35 : decode cX9_next 35 = .ok (.getfield 10, 3) := by decide +kernel
theorem dX9_next_38 : decode cX9_next 38 = .ok (.getfield 204, 3) := by decide +kernel
theorem dX9_next_41 : decode cX9_next 41 = .ok (.if_icmp .ge 49, 3) := by decide +kernel
theorem dX9_next_44 : decode cX9_next 44 = .ok (.aload_n 0, 1) := by decide +kernel
theorem dX9_next_45 : decode cX9_next 45 = .ok (.getfield 60, 3) := by decide +kernel
theorem dX9_next_48 : decode cX9_next 48 = .ok (.iload 4, 2) := by decide +kernel
theorem dX9_next_50 : decode cX9_next 50 = .ok (.invokevirtual 152, 3) := by decide +kernel
theorem dX9_next_53 : decode cX9_next 53 = .ok (.ifCond .eq 31, 3) := by decide +kernel
theorem dX9_next_56 : decode cX9_next 56 = .ok (.aload_n 0, 1) := by decide +kernel
theorem dX9_next_57 : decode cX9_next 57 = .ok (.getfield 60, 3) := by decide +kernel
theorem dX9_next_60 : decode cX9_next 60 = .ok (.iload 4, 2) := by decide +kernel
theorem dX9_next_62 : decode cX9_next 62 = .ok (.invokevirtual 210, 3) := by decide +kernel
theorem dX9_next_65 : decode cX9_next 65 = .ok (.istore 5, 2) := by decide +kernel
theorem dX9_next_67 : decode cX9_next 67 = .ok (.iload_n 2, 1) := by decide +kernel
theorem dX9_next_68 : decode cX9_next 68 = .ok (.iconst (-1), 1) := by decide +kernel
theorem dX9_next_69 : decode cX9_next 69 = .ok (.if_icmp .eq 9, 3) := by decide +kernel
theorem dX9_next_72 : decode cX9_next 72 = .ok (.iload 5, 2) := by decide +kernel
theorem dX9_next_74 : decode cX9_next 74 = .ok (.iload_n 3, 1) := by decide +kernel
theorem dX9_next_75 : decode cX9_next 75 = .ok (.if_icmp .ge 9, 3) := by decide +kernel
theorem dX9_next_78 : decode cX9_next 78 = .ok (.iload 4, 2) := by decide +kernel
theorem dX9_next_80 : decode cX9_next 80 = .ok (.istore_n 2, 1) := by decide +kernel
theorem dX9_next_81 : decode cX9_next 81 = .ok (.iload 5, 2) := by decide +kernel
theorem dX9_next_83 : decode cX9_next 83 = .ok (.istore_n 3, 1) := by decide +kernel
theorem dX9_next_84 : decode cX9_next 84 = .ok (.iinc 4 1, 3) := by decide +kernel
theorem dX9_next_87 : decode cX9_next 87 = .ok (.goto (-55), 3) := by decide +kernel
theorem dX9_next_90 : decode cX9_next 90 = .ok (.iload_n 1, 1) := by decide +kernel
theorem dX9_next_91 : decode cX9_next 91 = .ok (.ifCond .ne 7, 3) := by decide +kernel
theorem dX9_next_94 : decode cX9_next 94 = .ok (.iload_n 2, 1) := by decide +kernel
theorem dX9_next_95 : decode cX9_next 95 = .ok (.goto 4, 3) := by decide +kernel
theorem dX9_next_98 : decode cX9_next 98 = .ok (.iload_n 3, 1) := by decide +kernel
theorem dX9_next_99 : decode cX9_next 99 = .ok (.ireturn, 1) := by decide +kernel
theorem dX9_howMany_0 : decode cX9_howMany 0 = .ok (.aload_n 0, 1) := by decide +kernel
theorem dX9_howMany_1 : decode cX9_howMany 1 = .ok (.getfield 10, 3) := by decide +kernel
theorem dX9_howMany_4 : decode cX9_howMany 4 = .ok (.iload_n 1, 1) := by decide +kernel
theorem dX9_howMany_5 : decode cX9_howMany 5 = .ok (.invokevirtual 84, 3) := by decide +kernel
theorem dX9_howMany_8 : decode cX9_howMany 8 = .ok (.ifCond .ne 6, 3) := by decide +kernel
theorem dX9_howMany_11 : decode cX9_howMany 11 = .ok (.bipush (-2), 2) := by decide +kernel
theorem dX9_howMany_13 : decode cX9_howMany 13 = .ok (.ireturn, 1) := by decide +kernel
theorem dX9_howMany_14 : decode cX9_howMany 14 = .ok (.aload_n 0, 1) := by decide +kernel
theorem dX9_howMany_15 : decode cX9_howMany 15 = .ok (.getfield 60, 3) := by decide +kernel
theorem dX9_howMany_18 : decode cX9_howMany 18 = .ok (.invokevirtual 149, 3) := by decide +kernel
theorem dX9_howMany_21 : decode cX9_howMany 21 = .ok (.iconst 0, 1) := by decide +kernel
theorem dX9_howMany_22 : decode cX9_howMany 22 = .ok (.istore_n 2, 1) := by decide +kernel
theorem dX9_howMany_23 : decode cX9_howMany 23 = .ok (.iconst 0, 1) := by decide +kernel
theorem dX9_howMany_24 : decode cX9_howMany 24 = .ok (.istore_n 3, 1) := by decide +kernel
theorem dX9_howMany_25 : decode cX9_howMany 25 = .ok (.iload_n 3, 1) := by decide +kernel
theorem dX9_howMany_26 : decode cX9_howMany 26 = .ok (.bipush 40, 2) := by decide +kernel
theorem dX9_howMany_28 : decode cX9_howMany 28 = .ok (.if_icmp .ge 31, 3) := by decide +kernel
theorem dX9_howMany_31 : decode cX9_howMany 31 = .ok (.aload_n 0, 1) := by decide +kernel
theorem dX9_howMany_32 : decode cX9_howMany 32 = .ok (.getfield 60, 3) := by decide +kernel
theorem dX9_howMany_35 : decode cX9_howMany 35 = .ok (.iload_n 1, 1) := by decide +kernel
theorem dX9_howMany_36 : decode cX9_howMany 36 = .ok (.invokevirtual 152, 3) := by decide +kernel
theorem dX9_howMany_39 : decode cX9_howMany 39 = .ok (.ifCond .eq 20, 3) := by decide +kernel
theorem dX9_howMany_42 : decode cX9_howMany 42 = .ok (.aload_n 0, 1) := by decide +kernel
theorem dX9_howMany_43 : decode cX9_howMany 43 = .ok (.getfield 60, 3) := by decide +kernel
theorem dX9_howMany_46 : decode cX9_howMany 46 = .ok (.iload_n 1, 1) := by decide +kernel
theorem dX9_howMany_47 : decode cX9_howMany 47 = .ok (.invokevirtual 213, 3) := by decide +kernel
theorem dX9_howMany_50 : decode cX9_howMany 50 = .ok (.iinc 2 1, 3) := by decide +kernel
theorem dX9_howMany_53 : decode cX9_howMany 53 = .ok (.iinc 3 1, 3) := by decide +kernel
theorem dX9_howMany_56 : decode cX9_howMany 56 = .ok (.goto (-31), 3) := by decide +kernel
theorem dX9_howMany_59 : decode cX9_howMany 59 = .ok (.iload_n 2, 1) := by decide +kernel
theorem dX9_howMany_60 : decode cX9_howMany 60 = .ok (.ireturn, 1) := by decide +kernel
theorem dX9_order_0 : decode cX9_order 0 = .ok (.iload_n 1, 1) := by decide +kernel
theorem dX9_order_1 : decode cX9_order 1 = .ok (.invokestatic 217, 3) := by decide +kernel
theorem dX9_order_4 : decode cX9_order 4 = .ok (.ifCond .eq 12, 3) := by decide +kernel
theorem dX9_order_7 : decode cX9_order 7 = .ok (.iload_n 2, 1) := by decide +kernel
theorem dX9_order_8 : decode cX9_order 8 = .ok (.ifCond .lt 8, 3) := by decide +kernel
theorem dX9_order_11 : decode cX9_order 11 = .ok (.iload_n 2, 1) := by decide +kernel
theorem dX9_order_12 : decode cX9_order 12 = .ok (.iconst 1, 1) := by decide +kernel
theorem dX9_order_13 : decode cX9_order 13 = .ok (.if_icmp .le 6, 3) := by decide +kernel
theorem dX9_order_16 : decode cX9_order 16 = .ok (.bipush (-2), 2) := by decide +kernel
theorem dX9_order_18 : decode cX9_order 18 = .ok (.ireturn, 1) := by decide +kernel
theorem dX9_order_19 : decode cX9_order 19 = .ok (.aload_n 0, 1) := by decide +kernel
theorem dX9_order_20 : decode cX9_order 20 = .ok (.getfield 76, 3) := by decide +kernel
theorem dX9_order_23 : decode cX9_order 23 = .ok (.iload_n 1, 1) := by decide +kernel
theorem dX9_order_24 : decode cX9_order 24 = .ok (.invokevirtual 220, 3) := by decide +kernel
theorem dX9_order_27 : decode cX9_order 27 = .ok (.ifCond .eq 6, 3) := by decide +kernel
theorem dX9_order_30 : decode cX9_order 30 = .ok (.bipush (-11), 2) := by decide +kernel
theorem dX9_order_32 : decode cX9_order 32 = .ok (.ireturn, 1) := by decide +kernel
theorem dX9_order_33 : decode cX9_order 33 = .ok (.aload_n 0, 1) := by decide +kernel
theorem dX9_order_34 : decode cX9_order 34 = .ok (.getfield 76, 3) := by decide +kernel
theorem dX9_order_37 : decode cX9_order 37 = .ok (.getfield 223, 3) := by decide +kernel
theorem dX9_order_40 : decode cX9_order 40 = .ok (.iload_n 1, 1) := by decide +kernel
theorem dX9_order_41 : decode cX9_order 41 = .ok (.iaload, 1) := by decide +kernel
theorem dX9_order_42 : decode cX9_order 42 = .ok (.istore_n 3, 1) := by decide +kernel
theorem dX9_order_43 : decode cX9_order 43 = .ok (.iload_n 3, 1) := by decide +kernel
theorem dX9_order_44 : decode cX9_order 44 = .ok (.iconst 1, 1) := by decide +kernel
theorem dX9_order_45 : decode cX9_order 45 = .ok (.if_icmp .lt 9, 3) := by decide +kernel
theorem dX9_order_48 : decode cX9_order 48 = .ok (.iload_n 3, 1) := by decide +kernel
theorem dX9_order_49 : decode cX9_order 49 = .ok (.bipush 6, 2) := by decide +kernel
theorem dX9_order_51 : decode cX9_order 51 = .ok (.if_icmp .le 6, 3) := by decide +kernel
theorem dX9_order_54 : decode cX9_order 54 = .ok (.bipush (-2), 2) := by decide +kernel
theorem dX9_order_56 : decode cX9_order 56 = .ok (.ireturn, 1) := by decide +kernel
theorem dX9_order_57 : decode cX9_order 57 = .ok (.iconst 0, 1) := by decide +kernel
theorem dX9_order_58 : decode cX9_order 58 = .ok (.istore 4, 2) := by decide +kernel
theorem dX9_order_60 : decode cX9_order 60 = .ok (.iload 4, 2) := by decide +kernel
theorem dX9_order_62 : decode cX9_order 62 = .ok (.iload_n 3, 1) := by decide +kernel
theorem dX9_order_63 : decode cX9_order 63 = .ok (.if_icmp .ge 32, 3) := by decide +kernel
theorem dX9_order_66 : decode cX9_order 66 = .ok (.aload_n 0, 1) := by decide +kernel
theorem dX9_order_67 : decode cX9_order 67 = .ok (.getfield 10, 3) := by decide +kernel
theorem dX9_order_70 : decode cX9_order 70 = .ok (.aload_n 0, 1) := by decide +kernel
theorem dX9_order_71 : decode cX9_order 71 = .ok (.getfield 76, 3) := by decide +kernel
theorem dX9_order_74 : decode cX9_order 74 = .ok (.iload_n 1, 1) := by decide +kernel
theorem dX9_order_75 : decode cX9_order 75 = .ok (.iload 4, 2) := by decide +kernel
theorem dX9_order_77 : decode cX9_order 77 = .ok (.invokevirtual 226, 3) := by decide +kernel
theorem dX9_order_80 : decode cX9_order 80 = .ok (.invokevirtual 84, 3) := by decide +kernel
theorem dX9_order_83 : decode cX9_order 83 = .ok (.ifCond .ne 6, 3) := by decide +kernel
theorem dX9_order_86 : decode cX9_order 86 = .ok (.bipush (-2), 2) := by decide +kernel
theorem dX9_order_88 : decode cX9_order 88 = .ok (.ireturn, 1) := by decide +kernel
theorem dX9_order_89 : decode cX9_order 89 = .ok (.iinc 4 1, 3) := by decide +kernel
theorem dX9_order_92 : decode cX9_order 92 = .ok (.goto (-32), 3) := by decide +kernel
theorem dX9_order_95 : decode cX9_order 95 = .ok (.aload_n 0, 1) := by decide +kernel
theorem dX9_order_96 : decode cX9_order 96 = .ok (.getfield 60, 3) := by decide +kernel
theorem dX9_order_99 : decode cX9_order 99 = .ok (.invokevirtual 149, 3) := by decide +kernel
theorem dX9_order_102 : decode cX9_order 102 = .ok (.aload_n 0, 1) := by decide +kernel
theorem dX9_order_103 : decode cX9_order 103 = .ok (.getfield 69, 3) := by decide +kernel
theorem dX9_order_106 : decode cX9_order 106 = .ok (.aload_n 0, 1) := by decide +kernel
theorem dX9_order_107 : decode cX9_order 107 = .ok (.getfield 76, 3) := by decide +kernel
theorem dX9_order_110 : decode cX9_order 110 = .ok (.getfield 229, 3) := by decide +kernel
theorem dX9_order_113 : decode cX9_order 113 = .ok (.iload_n 1, 1) := by decide +kernel
theorem dX9_order_114 : decode cX9_order 114 = .ok (.aaload, 1) := by decide +kernel
theorem dX9_order_115 : decode cX9_order 115 = .ok (.iload_n 3, 1) := by decide +kernel
theorem dX9_order_116 : decode cX9_order 116 = .ok (.invokevirtual 233, 3) := by decide +kernel
theorem dX9_order_119 : decode cX9_order 119 = .ok (.aload_n 0, 1) := by decide +kernel
theorem dX9_order_120 : decode cX9_order 120 = .ok (.getfield 69, 3) := by decide +kernel
theorem dX9_order_123 : decode cX9_order 123 = .ok (.iconst 0, 1) := by decide +kernel
theorem dX9_order_124 : decode cX9_order 124 = .ok (.iconst 0, 1) := by decide +kernel
theorem dX9_order_125 : decode cX9_order 125 = .ok (.iconst 0, 1) := by decide +kernel
theorem dX9_order_126 : decode cX9_order 126 = .ok (.invokevirtual 236, 3) := by decide +kernel
theorem dX9_order_129 : decode cX9_order 129 = .ok (.iload_n 2, 1) := by decide +kernel
theorem dX9_order_130 : decode cX9_order 130 = .ok (.ifCond .ne 13, 3) := by decide +kernel
theorem dX9_order_133 : decode cX9_order 133 = .ok (.aload_n 0, 1) := by decide +kernel
theorem dX9_order_134 : decode cX9_order 134 = .ok (.getfield 69, 3) := by decide +kernel
theorem dX9_order_137 : decode cX9_order 137 = .ok (.getfield 239, 3) := by decide +kernel
theorem dX9_order_140 : decode cX9_order 140 = .ok (.goto 10, 3) := by decide +kernel
theorem dX9_order_143 : decode cX9_order 143 = .ok (.aload_n 0, 1) := by decide +kernel
theorem dX9_order_144 : decode cX9_order 144 = .ok (.getfield 69, 3) := by decide +kernel
theorem dX9_order_147 : decode cX9_order 147 = .ok (.getfield 242, 3) := by decide +kernel
theorem dX9_order_150 : decode cX9_order 150 = .ok (.ireturn, 1) := by decide +kernel
theorem dX9_forMoney_0 : decode cX9_forMoney 0 = .ok (.iload_n 1, 1) := by decide +kernel
theorem dX9_forMoney_1 : decode cX9_forMoney 1 = .ok (.ifCond .lt 10, 3) := by decide +kernel
theorem dX9_forMoney_4 : decode cX9_forMoney 4 = .ok (.iload_n 1, 1) := by decide +kernel
theorem dX9_forMoney_5 : decode cX9_forMoney 5 = .ok (.sipush 9999, 3) := by decide +kernel
theorem dX9_forMoney_8 : decode cX9_forMoney 8 = .ok (.if_icmp .le 6, 3) := by decide +kernel
theorem dX9_forMoney_11 : decode cX9_forMoney 11 = .ok (.bipush (-2), 2) := by decide +kernel
theorem dX9_forMoney_13 : decode cX9_forMoney 13 = .ok (.ireturn, 1) := by decide +kernel
theorem dX9_forMoney_14 : decode cX9_forMoney 14 = .ok (.iload_n 1, 1) := by decide +kernel
theorem dX9_forMoney_15 : decode cX9_forMoney 15 = .ok (.istore_n 2, 1) := by decide +kernel
theorem dX9_forMoney_16 : decode cX9_forMoney 16 = .ok (.iconst 0, 1) := by decide +kernel
theorem dX9_forMoney_17 : decode cX9_forMoney 17 = .ok (.istore_n 3, 1) := by decide +kernel
theorem dX9_forMoney_18 : decode cX9_forMoney 18 = .ok (.iconst 0, 1) := by decide +kernel
theorem dX9_forMoney_19 : decode cX9_forMoney 19 = .ok (.istore 4, 2) := by decide +kernel
theorem dX9_forMoney_21 : decode cX9_forMoney 21 = .ok (.iconst 0, 1) := by decide +kernel
theorem dX9_forMoney_22 : decode cX9_forMoney 22 = .ok (.istore 5, 2) := by decide +kernel
theorem dX9_forMoney_24 : decode cX9_forMoney 24 = .ok (.iload 5, 2) := by decide +kernel
theorem dX9_forMoney_26 : decode cX9_forMoney 26 = .ok (.aload_n 0, 1) := by decide +kernel
theorem dX9_forMoney_27 : decode cX9_forMoney 27 = .ok (.getfield 10, 3) := by decide +kernel
theorem dX9_forMoney_30 : decode cX9_forMoney 30 = .ok (.getfield 204, 3) := by decide +kernel
theorem dX9_forMoney_33 : decode cX9_forMoney 33 = .ok (.if_icmp .ge 107, 3) := by decide +kernel
theorem dX9_forMoney_36 : decode cX9_forMoney 36 = .ok (.aload_n 0, 1) := by decide +kernel
theorem dX9_forMoney_37 : decode cX9_forMoney 37 = .ok (.iload 4, 2) := by decide +kernel
theorem dX9_forMoney_39 : decode cX9_forMoney 39 = .ok (.invokevirtual 245, 3) := by decide +kernel
theorem dX9_forMoney_42 : decode cX9_forMoney 42 = .ok (.istore 6, 2) := by decide +kernel
theorem dX9_forMoney_44 : decode cX9_forMoney 44 = .ok (.iload 6, 2) := by decide +kernel
theorem dX9_forMoney_46 : decode cX9_forMoney 46 = .ok (.iconst (-1), 1) := by decide +kernel
theorem dX9_forMoney_47 : decode cX9_forMoney 47 = .ok (.if_icmp .ne 6, 3) := by decide +kernel
theorem dX9_forMoney_50 : decode cX9_forMoney 50 = .ok (.goto 90, 3) := by decide +kernel
theorem dX9_forMoney_53 : decode cX9_forMoney 53 = .ok (.iload 4, 2) := by decide +kernel
theorem dX9_forMoney_55 : decode cX9_forMoney 55 = .ok (.iconst 1, 1) := by decide +kernel
theorem dX9_forMoney_56 : decode cX9_forMoney 56 = .ok (.iload 6, 2) := by decide +kernel
theorem dX9_forMoney_58 : decode cX9_forMoney 58 = .ok (.ishl, 1) := by decide +kernel
theorem dX9_forMoney_59 : decode cX9_forMoney 59 = .ok (.ior, 1) := by decide +kernel
theorem dX9_forMoney_60 : decode cX9_forMoney 60 = .ok (.istore 4, 2) := by decide +kernel
theorem dX9_forMoney_62 : decode cX9_forMoney 62 = .ok (.aload_n 0, 1) := by decide +kernel
theorem dX9_forMoney_63 : decode cX9_forMoney 63 = .ok (.getfield 51, 3) := by decide +kernel
theorem dX9_forMoney_66 : decode cX9_forMoney 66 = .ok (.aload_n 0, 1) := by decide +kernel
theorem dX9_forMoney_67 : decode cX9_forMoney 67 = .ok (.getfield 10, 3) := by decide +kernel
theorem dX9_forMoney_70 : decode cX9_forMoney 70 = .ok (.iload 6, 2) := by decide +kernel
theorem dX9_forMoney_72 : decode cX9_forMoney 72 = .ok (.invokevirtual 99, 3) := by decide +kernel
theorem dX9_forMoney_75 : decode cX9_forMoney 75 = .ok (.aload_n 0, 1) := by decide +kernel
theorem dX9_forMoney_76 : decode cX9_forMoney 76 = .ok (.getfield 51, 3) := by decide +kernel
theorem dX9_forMoney_79 : decode cX9_forMoney 79 = .ok (.invokevirtual 114, 3) := by decide +kernel
theorem dX9_forMoney_82 : decode cX9_forMoney 82 = .ok (.istore 7, 2) := by decide +kernel
theorem dX9_forMoney_84 : decode cX9_forMoney 84 = .ok (.iload 7, 2) := by decide +kernel
theorem dX9_forMoney_86 : decode cX9_forMoney 86 = .ok (.ifCond .le 23, 3) := by decide +kernel
theorem dX9_forMoney_89 : decode cX9_forMoney 89 = .ok (.aload_n 0, 1) := by decide +kernel
theorem dX9_forMoney_90 : decode cX9_forMoney 90 = .ok (.getfield 10, 3) := by decide +kernel
theorem dX9_forMoney_93 : decode cX9_forMoney 93 = .ok (.getfield 146, 3) := by decide +kernel
theorem dX9_forMoney_96 : decode cX9_forMoney 96 = .ok (.iload 6, 2) := by decide +kernel
theorem dX9_forMoney_98 : decode cX9_forMoney 98 = .ok (.iaload, 1) := by decide +kernel
theorem dX9_forMoney_99 : decode cX9_forMoney 99 = .ok (.iload_n 2, 1) := by decide +kernel
theorem dX9_forMoney_100 : decode cX9_forMoney 100 = .ok (.iload 7, 2) := by decide +kernel
theorem dX9_forMoney_102 : decode cX9_forMoney 102 = .ok (.idiv, 1) := by decide +kernel
theorem dX9_forMoney_103 : decode cX9_forMoney 103 = .ok (.invokestatic 201, 3) := by decide +kernel
theorem dX9_forMoney_106 : decode cX9_forMoney 106 = .ok (.goto 13, 3) := by decide +kernel
theorem dX9_forMoney_109 : decode cX9_forMoney 109 = .ok (.aload_n 0, 1) := by decide +kernel
theorem dX9_forMoney_110 : decode cX9_forMoney 110 = .ok (.getfield 10, 3) := by decide +kernel
theorem dX9_forMoney_113 : decode cX9_forMoney 113 = .ok (.getfield 146, 3) := by decide +kernel
theorem dX9_forMoney_116 : decode cX9_forMoney 116 = .ok (.iload 6, 2) := by decide +kernel
theorem dX9_forMoney_118 : decode cX9_forMoney 118 = .ok (.iaload, 1) := by decide +kernel
theorem dX9_forMoney_119 : decode cX9_forMoney 119 = .ok (.istore 8, 2) := by decide +kernel
theorem dX9_forMoney_121 : decode cX9_forMoney 121 = .ok (.iload_n 3, 1) := by decide +kernel
theorem dX9_forMoney_122 : decode cX9_forMoney 122 = .ok (.iload 8, 2) := by decide +kernel
theorem dX9_forMoney_124 : decode cX9_forMoney 124 = .ok (.iadd, 1) := by decide +kernel
theorem dX9_forMoney_125 : decode cX9_forMoney 125 = .ok (.istore_n 3, 1) := by decide +kernel
theorem dX9_forMoney_126 : decode cX9_forMoney 126 = .ok (.iload_n 2, 1) := by decide +kernel
theorem dX9_forMoney_127 : decode cX9_forMoney 127 = .ok (.iload 8, 2) := by decide +kernel
theorem dX9_forMoney_129 : decode cX9_forMoney 129 = .ok (.iload 7, 2) := by decide +kernel
theorem dX9_forMoney_131 : decode cX9_forMoney 131 = .ok (.imul, 1) := by decide +kernel
theorem dX9_forMoney_132 : decode cX9_forMoney 132 = .ok (.isub, 1) := by decide +kernel
theorem dX9_forMoney_133 : decode cX9_forMoney 133 = .ok (.istore_n 2, 1) := by decide +kernel
theorem dX9_forMoney_134 : decode cX9_forMoney 134 = .ok (.iinc 5 1, 3) := by decide +kernel
theorem dX9_forMoney_137 : decode cX9_forMoney 137 = .ok (.goto (-113), 3) := by decide +kernel
theorem dX9_forMoney_140 : decode cX9_forMoney 140 = .ok (.iload_n 3, 1) := by decide +kernel
theorem dX9_forMoney_141 : decode cX9_forMoney 141 = .ok (.ireturn, 1) := by decide +kernel
theorem dX9_cheapestBut_0 : decode cX9_cheapestBut 0 = .ok (.iconst (-1), 1) := by decide +kernel
theorem dX9_cheapestBut_1 : decode cX9_cheapestBut 1 = .ok (.istore_n 2, 1) := by decide +kernel
theorem dX9_cheapestBut_2 : decode cX9_cheapestBut 2 = .ok (.iconst 0, 1) := by decide +kernel
theorem dX9_cheapestBut_3 : decode cX9_cheapestBut 3 = .ok (.istore_n 3, 1) := by decide +kernel
theorem dX9_cheapestBut_4 : decode cX9_cheapestBut 4 = .ok (.iconst 0, 1) := by decide +kernel
theorem dX9_cheapestBut_5 : decode cX9_cheapestBut 5 = .ok (.istore 4, 2) := by decide +kernel
theorem dX9_cheapestBut_7 : decode cX9_cheapestBut 7 = .ok (.iload 4, 2) := by decide +kernel
theorem dX9_cheapestBut_9 : decode cX9_cheapestBut 9 = .ok (.aload_n 0, 1) := by decide +kernel
theorem dX9_cheapestBut_10 : decode cX9_cheapestBut 10 = .ok (.getfield 10, 3) := by decide +kernel
theorem dX9_cheapestBut_13 : decode cX9_cheapestBut 13 = .ok (.getfield 204, 3) := by decide +kernel
theorem dX9_cheapestBut_16 : decode cX9_cheapestBut 16 = .ok (.if_icmp .ge 57, 3) := by decide +kernel
theorem dX9_cheapestBut_19 : decode cX9_cheapestBut 19 = .ok (.aload_n 0, 1) := by decide +kernel
theorem dX9_cheapestBut_20 : decode cX9_cheapestBut 20 = .ok (.getfield 51, 3) := by decide +kernel
theorem dX9_cheapestBut_23 : decode cX9_cheapestBut 23 = .ok (.aload_n 0, 1) := by decide +kernel
theorem dX9_cheapestBut_24 : decode cX9_cheapestBut 24 = .ok (.getfield 10, 3) := by decide +kernel
theorem dX9_cheapestBut_27 : decode cX9_cheapestBut 27 = .ok (.iload 4, 2) := by decide +kernel
theorem dX9_cheapestBut_29 : decode cX9_cheapestBut 29 = .ok (.invokevirtual 99, 3) := by decide +kernel
theorem dX9_cheapestBut_32 : decode cX9_cheapestBut 32 = .ok (.aload_n 0, 1) := by decide +kernel
theorem dX9_cheapestBut_33 : decode cX9_cheapestBut 33 = .ok (.getfield 51, 3) := by decide +kernel
theorem dX9_cheapestBut_36 : decode cX9_cheapestBut 36 = .ok (.invokevirtual 114, 3) := by decide +kernel
theorem dX9_cheapestBut_39 : decode cX9_cheapestBut 39 = .ok (.istore 5, 2) := by decide +kernel
theorem dX9_cheapestBut_41 : decode cX9_cheapestBut 41 = .ok (.iload_n 1, 1) := by decide +kernel
theorem dX9_cheapestBut_42 : decode cX9_cheapestBut 42 = .ok (.iload 4, 2) := by decide +kernel
theorem dX9_cheapestBut_44 : decode cX9_cheapestBut 44 = .ok (.ishr, 1) := by decide +kernel
theorem dX9_cheapestBut_45 : decode cX9_cheapestBut 45 = .ok (.iconst 1, 1) := by decide +kernel
theorem dX9_cheapestBut_46 : decode cX9_cheapestBut 46 = .ok (.iand, 1) := by decide +kernel
theorem dX9_cheapestBut_47 : decode cX9_cheapestBut 47 = .ok (.ifCond .ne 20, 3) := by decide +kernel
theorem dX9_cheapestBut_50 : decode cX9_cheapestBut 50 = .ok (.iload_n 2, 1) := by decide +kernel
theorem dX9_cheapestBut_51 : decode cX9_cheapestBut 51 = .ok (.iconst (-1), 1) := by decide +kernel
theorem dX9_cheapestBut_52 : decode cX9_cheapestBut 52 = .ok (.if_icmp .eq 9, 3) := by decide +kernel
theorem dX9_cheapestBut_55 : decode cX9_cheapestBut 55 = .ok (.iload 5, 2) := by decide +kernel
theorem dX9_cheapestBut_57 : decode cX9_cheapestBut 57 = .ok (.iload_n 3, 1) := by decide +kernel
theorem dX9_cheapestBut_58 : decode cX9_cheapestBut 58 = .ok (.if_icmp .ge 9, 3) := by decide +kernel
theorem dX9_cheapestBut_61 : decode cX9_cheapestBut 61 = .ok (.iload 4, 2) := by decide +kernel
theorem dX9_cheapestBut_63 : decode cX9_cheapestBut 63 = .ok (.istore_n 2, 1) := by decide +kernel
theorem dX9_cheapestBut_64 : decode cX9_cheapestBut 64 = .ok (.iload 5, 2) := by decide +kernel
theorem dX9_cheapestBut_66 : decode cX9_cheapestBut 66 = .ok (.istore_n 3, 1) := by decide +kernel
theorem dX9_cheapestBut_67 : decode cX9_cheapestBut 67 = .ok (.iinc 4 1, 3) := by decide +kernel
theorem dX9_cheapestBut_70 : decode cX9_cheapestBut 70 = .ok (.goto (-63), 3) := by decide +kernel
theorem dX9_cheapestBut_73 : decode cX9_cheapestBut 73 = .ok (.iload_n 2, 1) := by decide +kernel
theorem dX9_cheapestBut_74 : decode cX9_cheapestBut 74 = .ok (.ireturn, 1) := by decide +kernel
theorem dX9_worst_0 : decode cX9_worst 0 = .ok (.iload_n 1, 1) := by decide +kernel
theorem dX9_worst_1 : decode cX9_worst 1 = .ok (.ifCond .lt 8, 3) := by decide +kernel
theorem dX9_worst_4 : decode cX9_worst 4 = .ok (.iload_n 1, 1) := by decide +kernel
theorem dX9_worst_5 : decode cX9_worst 5 = .ok (.iconst 1, 1) := by decide +kernel
theorem dX9_worst_6 : decode cX9_worst 6 = .ok (.if_icmp .le 6, 3) := by decide +kernel
theorem dX9_worst_9 : decode cX9_worst 9 = .ok (.bipush (-2), 2) := by decide +kernel
theorem dX9_worst_11 : decode cX9_worst 11 = .ok (.ireturn, 1) := by decide +kernel
theorem dX9_worst_12 : decode cX9_worst 12 = .ok (.aload_n 0, 1) := by decide +kernel
theorem dX9_worst_13 : decode cX9_worst 13 = .ok (.getfield 60, 3) := by decide +kernel
theorem dX9_worst_16 : decode cX9_worst 16 = .ok (.invokevirtual 149, 3) := by decide +kernel
theorem dX9_worst_19 : decode cX9_worst 19 = .ok (.iconst (-1), 1) := by decide +kernel
theorem dX9_worst_20 : decode cX9_worst 20 = .ok (.istore_n 2, 1) := by decide +kernel
theorem dX9_worst_21 : decode cX9_worst 21 = .ok (.iconst 0, 1) := by decide +kernel
theorem dX9_worst_22 : decode cX9_worst 22 = .ok (.istore_n 3, 1) := by decide +kernel
theorem dX9_worst_23 : decode cX9_worst 23 = .ok (.iconst 0, 1) := by decide +kernel
theorem dX9_worst_24 : decode cX9_worst 24 = .ok (.istore 4, 2) := by decide +kernel
theorem dX9_worst_26 : decode cX9_worst 26 = .ok (.iload 4, 2) := by decide +kernel
theorem dX9_worst_28 : decode cX9_worst 28 = .ok (.aload_n 0, 1) := by decide +kernel
theorem dX9_worst_29 : decode cX9_worst 29 = .ok (.getfield 10, 3) := by decide +kernel
theorem dX9_worst_32 : decode cX9_worst 32 = .ok (.getfield 248, 3) := by decide +kernel
theorem dX9_worst_35 : decode cX9_worst 35 = .ok (.if_icmp .ge 32, 3) := by decide +kernel
theorem dX9_worst_38 : decode cX9_worst 38 = .ok (.aload_n 0, 1) := by decide +kernel
theorem dX9_worst_39 : decode cX9_worst 39 = .ok (.getfield 60, 3) := by decide +kernel
theorem dX9_worst_42 : decode cX9_worst 42 = .ok (.iload 4, 2) := by decide +kernel
theorem dX9_worst_44 : decode cX9_worst 44 = .ok (.invokevirtual 251, 3) := by decide +kernel
theorem dX9_worst_47 : decode cX9_worst 47 = .ok (.istore 5, 2) := by decide +kernel
theorem dX9_worst_49 : decode cX9_worst 49 = .ok (.iload 5, 2) := by decide +kernel
theorem dX9_worst_51 : decode cX9_worst 51 = .ok (.iload_n 3, 1) := by decide +kernel
theorem dX9_worst_52 : decode cX9_worst 52 = .ok (.if_icmp .le 9, 3) := by decide +kernel
theorem dX9_worst_55 : decode cX9_worst 55 = .ok (.iload 4, 2) := by decide +kernel
theorem dX9_worst_57 : decode cX9_worst 57 = .ok (.istore_n 2, 1) := by decide +kernel
theorem dX9_worst_58 : decode cX9_worst 58 = .ok (.iload 5, 2) := by decide +kernel
theorem dX9_worst_60 : decode cX9_worst 60 = .ok (.istore_n 3, 1) := by decide +kernel
theorem dX9_worst_61 : decode cX9_worst 61 = .ok (.iinc 4 1, 3) := by decide +kernel
theorem dX9_worst_64 : decode cX9_worst 64 = .ok (.goto (-38), 3) := by decide +kernel
theorem dX9_worst_67 : decode cX9_worst 67 = .ok (.iload_n 1, 1) := by decide +kernel
theorem dX9_worst_68 : decode cX9_worst 68 = .ok (.ifCond .ne 7, 3) := by decide +kernel
theorem dX9_worst_71 : decode cX9_worst 71 = .ok (.iload_n 2, 1) := by decide +kernel
theorem dX9_worst_72 : decode cX9_worst 72 = .ok (.goto 12, 3) := by decide +kernel
theorem dX9_worst_75 : decode cX9_worst 75 = .ok (.aload_n 0, 1) := by decide +kernel
theorem dX9_worst_76 : decode cX9_worst 76 = .ok (.getfield 60, 3) := by decide +kernel
theorem dX9_worst_79 : decode cX9_worst 79 = .ok (.getfield 193, 3) := by decide +kernel
theorem dX9_worst_82 : decode cX9_worst 82 = .ok (.iload_n 3, 1) := by decide +kernel
theorem dX9_worst_83 : decode cX9_worst 83 = .ok (.isub, 1) := by decide +kernel
theorem dX9_worst_84 : decode cX9_worst 84 = .ok (.ireturn, 1) := by decide +kernel
theorem dX9_tells_0 : decode cX9_tells 0 = .ok (.iload_n 1, 1) := by decide +kernel
theorem dX9_tells_1 : decode cX9_tells 1 = .ok (.invokestatic 217, 3) := by decide +kernel
theorem dX9_tells_4 : decode cX9_tells 4 = .ok (.ifCond .eq 23, 3) := by decide +kernel
theorem dX9_tells_7 : decode cX9_tells 7 = .ok (.aload_n 0, 1) := by decide +kernel
theorem dX9_tells_8 : decode cX9_tells 8 = .ok (.getfield 10, 3) := by decide +kernel
theorem dX9_tells_11 : decode cX9_tells 11 = .ok (.iload_n 2, 1) := by decide +kernel
theorem dX9_tells_12 : decode cX9_tells 12 = .ok (.invokevirtual 84, 3) := by decide +kernel
theorem dX9_tells_15 : decode cX9_tells 15 = .ok (.ifCond .eq 12, 3) := by decide +kernel
theorem dX9_tells_18 : decode cX9_tells 18 = .ok (.iload_n 3, 1) := by decide +kernel
theorem dX9_tells_19 : decode cX9_tells 19 = .ok (.ifCond .lt 8, 3) := by decide +kernel
theorem dX9_tells_22 : decode cX9_tells 22 = .ok (.iload_n 3, 1) := by decide +kernel
theorem dX9_tells_23 : decode cX9_tells 23 = .ok (.iconst 5, 1) := by decide +kernel
theorem dX9_tells_24 : decode cX9_tells 24 = .ok (.if_icmp .le 6, 3) := by decide +kernel
theorem dX9_tells_27 : decode cX9_tells 27 = .ok (.bipush (-2), 2) := by decide +kernel
theorem dX9_tells_29 : decode cX9_tells 29 = .ok (.ireturn, 1) := by decide +kernel
theorem dX9_tells_30 : decode cX9_tells 30 = .ok (.aload_n 0, 1) := by decide +kernel
theorem dX9_tells_31 : decode cX9_tells 31 = .ok (.getfield 76, 3) := by decide +kernel
theorem dX9_tells_34 : decode cX9_tells 34 = .ok (.iload_n 1, 1) := by decide +kernel
theorem dX9_tells_35 : decode cX9_tells 35 = .ok (.invokevirtual 220, 3) := by decide +kernel
theorem dX9_tells_38 : decode cX9_tells 38 = .ok (.ifCond .eq 6, 3) := by decide +kernel
theorem dX9_tells_41 : decode cX9_tells 41 = .ok (.bipush (-11), 2) := by decide +kernel
theorem dX9_tells_43 : decode cX9_tells 43 = .ok (.ireturn, 1) := by decide +kernel
theorem dX9_tells_44 : decode cX9_tells 44 = .ok (.aload_n 0, 1) := by decide +kernel
theorem dX9_tells_45 : decode cX9_tells 45 = .ok (.getfield 76, 3) := by decide +kernel
theorem dX9_tells_48 : decode cX9_tells 48 = .ok (.getfield 223, 3) := by decide +kernel
theorem dX9_tells_51 : decode cX9_tells 51 = .ok (.iload_n 1, 1) := by decide +kernel
theorem dX9_tells_52 : decode cX9_tells 52 = .ok (.iaload, 1) := by decide +kernel
theorem dX9_tells_53 : decode cX9_tells 53 = .ok (.bipush 20, 2) := by decide +kernel
theorem dX9_tells_55 : decode cX9_tells 55 = .ok (.if_icmp .le 6, 3) := by decide +kernel
theorem dX9_tells_58 : decode cX9_tells 58 = .ok (.bipush (-2), 2) := by decide +kernel
theorem dX9_tells_60 : decode cX9_tells 60 = .ok (.ireturn, 1) := by decide +kernel
theorem dX9_tells_61 : decode cX9_tells 61 = .ok (.iload_n 3, 1) := by decide +kernel
theorem dX9_tells_62 : decode cX9_tells 62 = .ok (.ifCond .ne 21, 3) := by decide +kernel
theorem dX9_tells_65 : decode cX9_tells 65 = .ok (.aload_n 0, 1) := by decide +kernel
theorem dX9_tells_66 : decode cX9_tells 66 = .ok (.getfield 51, 3) := by decide +kernel
theorem dX9_tells_69 : decode cX9_tells 69 = .ok (.aload_n 0, 1) := by decide +kernel
theorem dX9_tells_70 : decode cX9_tells 70 = .ok (.getfield 10, 3) := by decide +kernel
theorem dX9_tells_73 : decode cX9_tells 73 = .ok (.iload_n 2, 1) := by decide +kernel
theorem dX9_tells_74 : decode cX9_tells 74 = .ok (.invokevirtual 254, 3) := by decide +kernel
theorem dX9_tells_77 : decode cX9_tells 77 = .ok (.aload_n 0, 1) := by decide +kernel
theorem dX9_tells_78 : decode cX9_tells 78 = .ok (.iload_n 1, 1) := by decide +kernel
theorem dX9_tells_79 : decode cX9_tells 79 = .ok (.invokevirtual 257, 3) := by decide +kernel
theorem dX9_tells_82 : decode cX9_tells 82 = .ok (.ireturn, 1) := by decide +kernel
theorem dX9_tells_83 : decode cX9_tells 83 = .ok (.aload_n 0, 1) := by decide +kernel
theorem dX9_tells_84 : decode cX9_tells 84 = .ok (.iload_n 1, 1) := by decide +kernel
theorem dX9_tells_85 : decode cX9_tells 85 = .ok (.iload_n 2, 1) := by decide +kernel
theorem dX9_tells_86 : decode cX9_tells 86 = .ok (.iload_n 3, 1) := by decide +kernel
theorem dX9_tells_87 : decode cX9_tells 87 = .ok (.invokevirtual 260, 3) := by decide +kernel
theorem dX9_tells_90 : decode cX9_tells 90 = .ok (.ireturn, 1) := by decide +kernel
theorem dX9_agreeing_0 : decode cX9_agreeing 0 = .ok (.iconst 0, 1) := by decide +kernel
theorem dX9_agreeing_1 : decode cX9_agreeing 1 = .ok (.istore 4, 2) := by decide +kernel
theorem dX9_agreeing_3 : decode cX9_agreeing 3 = .ok (.aload_n 0, 1) := by decide +kernel
theorem dX9_agreeing_4 : decode cX9_agreeing 4 = .ok (.iload_n 3, 1) := by decide +kernel
theorem dX9_agreeing_5 : decode cX9_agreeing 5 = .ok (.invokevirtual 264, 3) := by decide +kernel
theorem dX9_agreeing_8 : decode cX9_agreeing 8 = .ok (.istore 5, 2) := by decide +kernel
theorem dX9_agreeing_10 : decode cX9_agreeing 10 = .ok (.iconst 0, 1) := by decide +kernel
theorem dX9_agreeing_11 : decode cX9_agreeing 11 = .ok (.istore 6, 2) := by decide +kernel
theorem dX9_agreeing_13 : decode cX9_agreeing 13 = .ok (.iload 6, 2) := by decide +kernel
theorem dX9_agreeing_15 : decode cX9_agreeing 15 = .ok (.iload 5, 2) := by decide +kernel
theorem dX9_agreeing_17 : decode cX9_agreeing 17 = .ok (.if_icmp .ge 49, 3) := by decide +kernel
theorem dX9_agreeing_20 : decode cX9_agreeing 20 = .ok (.aload_n 0, 1) := by decide +kernel
theorem dX9_agreeing_21 : decode cX9_agreeing 21 = .ok (.getfield 51, 3) := by decide +kernel
theorem dX9_agreeing_24 : decode cX9_agreeing 24 = .ok (.aload_n 0, 1) := by decide +kernel
theorem dX9_agreeing_25 : decode cX9_agreeing 25 = .ok (.getfield 10, 3) := by decide +kernel
theorem dX9_agreeing_28 : decode cX9_agreeing 28 = .ok (.iload_n 2, 1) := by decide +kernel
theorem dX9_agreeing_29 : decode cX9_agreeing 29 = .ok (.invokevirtual 254, 3) := by decide +kernel
theorem dX9_agreeing_32 : decode cX9_agreeing 32 = .ok (.aload_n 0, 1) := by decide +kernel
theorem dX9_agreeing_33 : decode cX9_agreeing 33 = .ok (.getfield 51, 3) := by decide +kernel
theorem dX9_agreeing_36 : decode cX9_agreeing 36 = .ok (.iload_n 3, 1) := by decide +kernel
theorem dX9_agreeing_37 : decode cX9_agreeing 37 = .ok (.iload 6, 2) := by decide +kernel
theorem dX9_agreeing_39 : decode cX9_agreeing 39 = .ok (.invokevirtual 267, 3) := by decide +kernel
theorem dX9_agreeing_42 : decode cX9_agreeing 42 = .ok (.aload_n 0, 1) := by decide +kernel
theorem dX9_agreeing_43 : decode cX9_agreeing 43 = .ok (.iload_n 1, 1) := by decide +kernel
theorem dX9_agreeing_44 : decode cX9_agreeing 44 = .ok (.invokevirtual 257, 3) := by decide +kernel
theorem dX9_agreeing_47 : decode cX9_agreeing 47 = .ok (.iconst (-1), 1) := by decide +kernel
theorem dX9_agreeing_48 : decode cX9_agreeing 48 = .ok (.if_icmp .ne 12, 3) := by decide +kernel
theorem dX9_agreeing_51 : decode cX9_agreeing 51 = .ok (.iload 4, 2) := by decide +kernel
theorem dX9_agreeing_53 : decode cX9_agreeing 53 = .ok (.iconst 1, 1) := by decide +kernel
theorem dX9_agreeing_54 : decode cX9_agreeing 54 = .ok (.iload 6, 2) := by decide +kernel
theorem dX9_agreeing_56 : decode cX9_agreeing 56 = .ok (.ishl, 1) := by decide +kernel
theorem dX9_agreeing_57 : decode cX9_agreeing 57 = .ok (.ior, 1) := by decide +kernel
theorem dX9_agreeing_58 : decode cX9_agreeing 58 = .ok (.istore 4, 2) := by decide +kernel
theorem dX9_agreeing_60 : decode cX9_agreeing 60 = .ok (.iinc 6 1, 3) := by decide +kernel
theorem dX9_agreeing_63 : decode cX9_agreeing 63 = .ok (.goto (-50), 3) := by decide +kernel
theorem dX9_agreeing_66 : decode cX9_agreeing 66 = .ok (.iload 4, 2) := by decide +kernel
theorem dX9_agreeing_68 : decode cX9_agreeing 68 = .ok (.ireturn, 1) := by decide +kernel
theorem dX9_choicesOf_0 : decode cX9_choicesOf 0 = .ok (.iload_n 1, 1) := by decide +kernel
theorem dX9_choicesOf_1 : decode cX9_choicesOf 1 = .ok (.tableswitch 54 1 5 #[35, 38, 41, 43, 46], 35) := by decide +kernel
theorem dX9_choicesOf_36 : decode cX9_choicesOf 36 = .ok (.bipush 6, 2) := by decide +kernel
theorem dX9_choicesOf_38 : decode cX9_choicesOf 38 = .ok (.ireturn, 1) := by decide +kernel
theorem dX9_choicesOf_39 : decode cX9_choicesOf 39 = .ok (.bipush 10, 2) := by decide +kernel
theorem dX9_choicesOf_41 : decode cX9_choicesOf 41 = .ok (.ireturn, 1) := by decide +kernel
theorem dX9_choicesOf_42 : decode cX9_choicesOf 42 = .ok (.iconst 5, 1) := by decide +kernel
theorem dX9_choicesOf_43 : decode cX9_choicesOf 43 = .ok (.ireturn, 1) := by decide +kernel
theorem dX9_choicesOf_44 : decode cX9_choicesOf 44 = .ok (.bipush 16, 2) := by decide +kernel
theorem dX9_choicesOf_46 : decode cX9_choicesOf 46 = .ok (.ireturn, 1) := by decide +kernel
theorem dX9_choicesOf_47 : decode cX9_choicesOf 47 = .ok (.aload_n 0, 1) := by decide +kernel
theorem dX9_choicesOf_48 : decode cX9_choicesOf 48 = .ok (.getfield 33, 3) := by decide +kernel
theorem dX9_choicesOf_51 : decode cX9_choicesOf 51 = .ok (.getfield 270, 3) := by decide +kernel
theorem dX9_choicesOf_54 : decode cX9_choicesOf 54 = .ok (.ireturn, 1) := by decide +kernel
theorem dX9_choicesOf_55 : decode cX9_choicesOf 55 = .ok (.iconst 0, 1) := by decide +kernel
theorem dX9_choicesOf_56 : decode cX9_choicesOf 56 = .ok (.ireturn, 1) := by decide +kernel
theorem dX9_firstOtherwise_0 : decode cX9_firstOtherwise 0 = .ok (.aload_n 0, 1) := by decide +kernel
theorem dX9_firstOtherwise_1 : decode cX9_firstOtherwise 1 = .ok (.getfield 76, 3) := by decide +kernel
theorem dX9_firstOtherwise_4 : decode cX9_firstOtherwise 4 = .ok (.getfield 223, 3) := by decide +kernel
theorem dX9_firstOtherwise_7 : decode cX9_firstOtherwise 7 = .ok (.iload_n 1, 1) := by decide +kernel
theorem dX9_firstOtherwise_8 : decode cX9_firstOtherwise 8 = .ok (.iaload, 1) := by decide +kernel
theorem dX9_firstOtherwise_9 : decode cX9_firstOtherwise 9 = .ok (.istore_n 2, 1) := by decide +kernel
theorem dX9_firstOtherwise_10 : decode cX9_firstOtherwise 10 = .ok (.iconst 0, 1) := by decide +kernel
theorem dX9_firstOtherwise_11 : decode cX9_firstOtherwise 11 = .ok (.istore_n 3, 1) := by decide +kernel
theorem dX9_firstOtherwise_12 : decode cX9_firstOtherwise 12 = .ok (.iload_n 3, 1) := by decide +kernel
theorem dX9_firstOtherwise_13 : decode cX9_firstOtherwise 13 = .ok (.iload_n 2, 1) := by decide +kernel
theorem dX9_firstOtherwise_14 : decode cX9_firstOtherwise 14 = .ok (.if_icmp .ge 30, 3) := by decide +kernel
theorem dX9_firstOtherwise_17 : decode cX9_firstOtherwise 17 = .ok (.aload_n 0, 1) := by decide +kernel
theorem dX9_firstOtherwise_18 : decode cX9_firstOtherwise 18 = .ok (.getfield 51, 3) := by decide +kernel
theorem dX9_firstOtherwise_21 : decode cX9_firstOtherwise 21 = .ok (.invokevirtual 271, 3) := by decide +kernel
theorem dX9_firstOtherwise_24 : decode cX9_firstOtherwise 24 = .ok (.aload_n 0, 1) := by decide +kernel
theorem dX9_firstOtherwise_25 : decode cX9_firstOtherwise 25 = .ok (.getfield 76, 3) := by decide +kernel
theorem dX9_firstOtherwise_28 : decode cX9_firstOtherwise 28 = .ok (.iload_n 1, 1) := by decide +kernel
theorem dX9_firstOtherwise_29 : decode cX9_firstOtherwise 29 = .ok (.iload_n 3, 1) := by decide +kernel
theorem dX9_firstOtherwise_30 : decode cX9_firstOtherwise 30 = .ok (.invokevirtual 226, 3) := by decide +kernel
theorem dX9_firstOtherwise_33 : decode cX9_firstOtherwise 33 = .ok (.if_icmp .eq 5, 3) := by decide +kernel
theorem dX9_firstOtherwise_36 : decode cX9_firstOtherwise 36 = .ok (.iload_n 3, 1) := by decide +kernel
theorem dX9_firstOtherwise_37 : decode cX9_firstOtherwise 37 = .ok (.ireturn, 1) := by decide +kernel
theorem dX9_firstOtherwise_38 : decode cX9_firstOtherwise 38 = .ok (.iinc 3 1, 3) := by decide +kernel
theorem dX9_firstOtherwise_41 : decode cX9_firstOtherwise 41 = .ok (.goto (-29), 3) := by decide +kernel
theorem dX9_firstOtherwise_44 : decode cX9_firstOtherwise 44 = .ok (.iconst (-1), 1) := by decide +kernel
theorem dX9_firstOtherwise_45 : decode cX9_firstOtherwise 45 = .ok (.ireturn, 1) := by decide +kernel
theorem dX9_film_0 : decode cX9_film 0 = .ok (.iload_n 1, 1) := by decide +kernel
theorem dX9_film_1 : decode cX9_film 1 = .ok (.invokestatic 217, 3) := by decide +kernel
theorem dX9_film_4 : decode cX9_film 4 = .ok (.ifCond .eq 24, 3) := by decide +kernel
theorem dX9_film_7 : decode cX9_film 7 = .ok (.aload_n 0, 1) := by decide +kernel
theorem dX9_film_8 : decode cX9_film 8 = .ok (.getfield 10, 3) := by decide +kernel
theorem dX9_film_11 : decode cX9_film 11 = .ok (.iload_n 2, 1) := by decide +kernel
theorem dX9_film_12 : decode cX9_film 12 = .ok (.invokevirtual 84, 3) := by decide +kernel
theorem dX9_film_15 : decode cX9_film 15 = .ok (.ifCond .eq 13, 3) := by decide +kernel
theorem dX9_film_18 : decode cX9_film 18 = .ok (.iload_n 3, 1) := by decide +kernel
theorem dX9_film_19 : decode cX9_film 19 = .ok (.ifCond .lt 9, 3) := by decide +kernel
theorem dX9_film_22 : decode cX9_film 22 = .ok (.iload_n 3, 1) := by decide +kernel
theorem dX9_film_23 : decode cX9_film 23 = .ok (.bipush 20, 2) := by decide +kernel
theorem dX9_film_25 : decode cX9_film 25 = .ok (.if_icmp .le 6, 3) := by decide +kernel
theorem dX9_film_28 : decode cX9_film 28 = .ok (.bipush (-2), 2) := by decide +kernel
theorem dX9_film_30 : decode cX9_film 30 = .ok (.ireturn, 1) := by decide +kernel
theorem dX9_film_31 : decode cX9_film 31 = .ok (.aload_n 0, 1) := by decide +kernel
theorem dX9_film_32 : decode cX9_film 32 = .ok (.getfield 76, 3) := by decide +kernel
theorem dX9_film_35 : decode cX9_film 35 = .ok (.iload_n 1, 1) := by decide +kernel
theorem dX9_film_36 : decode cX9_film 36 = .ok (.iconst 0, 1) := by decide +kernel
theorem dX9_film_37 : decode cX9_film 37 = .ok (.iload_n 3, 1) := by decide +kernel
theorem dX9_film_38 : decode cX9_film 38 = .ok (.invokevirtual 274, 3) := by decide +kernel
theorem dX9_film_41 : decode cX9_film 41 = .ok (.aload_n 0, 1) := by decide +kernel
theorem dX9_film_42 : decode cX9_film 42 = .ok (.getfield 51, 3) := by decide +kernel
theorem dX9_film_45 : decode cX9_film 45 = .ok (.aload_n 0, 1) := by decide +kernel
theorem dX9_film_46 : decode cX9_film 46 = .ok (.getfield 10, 3) := by decide +kernel
theorem dX9_film_49 : decode cX9_film 49 = .ok (.iload_n 2, 1) := by decide +kernel
theorem dX9_film_50 : decode cX9_film 50 = .ok (.invokevirtual 254, 3) := by decide +kernel
theorem dX9_film_53 : decode cX9_film 53 = .ok (.iconst 0, 1) := by decide +kernel
theorem dX9_film_54 : decode cX9_film 54 = .ok (.istore 4, 2) := by decide +kernel
theorem dX9_film_56 : decode cX9_film 56 = .ok (.iload 4, 2) := by decide +kernel
theorem dX9_film_58 : decode cX9_film 58 = .ok (.iload_n 3, 1) := by decide +kernel
theorem dX9_film_59 : decode cX9_film 59 = .ok (.if_icmp .ge 26, 3) := by decide +kernel
theorem dX9_film_62 : decode cX9_film 62 = .ok (.aload_n 0, 1) := by decide +kernel
theorem dX9_film_63 : decode cX9_film 63 = .ok (.getfield 76, 3) := by decide +kernel
theorem dX9_film_66 : decode cX9_film 66 = .ok (.iload_n 1, 1) := by decide +kernel
theorem dX9_film_67 : decode cX9_film 67 = .ok (.iload 4, 2) := by decide +kernel
theorem dX9_film_69 : decode cX9_film 69 = .ok (.aload_n 0, 1) := by decide +kernel
theorem dX9_film_70 : decode cX9_film 70 = .ok (.getfield 51, 3) := by decide +kernel
theorem dX9_film_73 : decode cX9_film 73 = .ok (.invokevirtual 271, 3) := by decide +kernel
theorem dX9_film_76 : decode cX9_film 76 = .ok (.invokevirtual 277, 3) := by decide +kernel
theorem dX9_film_79 : decode cX9_film 79 = .ok (.iinc 4 1, 3) := by decide +kernel
theorem dX9_film_82 : decode cX9_film 82 = .ok (.goto (-26), 3) := by decide +kernel
theorem dX9_film_85 : decode cX9_film 85 = .ok (.iload_n 3, 1) := by decide +kernel
theorem dX9_film_86 : decode cX9_film 86 = .ok (.ireturn, 1) := by decide +kernel
theorem dX9_drawn_0 : decode cX9_drawn 0 = .ok (.iload_n 2, 1) := by decide +kernel
theorem dX9_drawn_1 : decode cX9_drawn 1 = .ok (.ifCond .lt 9, 3) := by decide +kernel
theorem dX9_drawn_4 : decode cX9_drawn 4 = .ok (.iload_n 2, 1) := by decide +kernel
theorem dX9_drawn_5 : decode cX9_drawn 5 = .ok (.bipush 40, 2) := by decide +kernel
theorem dX9_drawn_7 : decode cX9_drawn 7 = .ok (.if_icmp .le 6, 3) := by decide +kernel
theorem dX9_drawn_10 : decode cX9_drawn 10 = .ok (.bipush (-2), 2) := by decide +kernel
theorem dX9_drawn_12 : decode cX9_drawn 12 = .ok (.ireturn, 1) := by decide +kernel
theorem dX9_drawn_13 : decode cX9_drawn 13 = .ok (.aload_n 0, 1) := by decide +kernel
theorem dX9_drawn_14 : decode cX9_drawn 14 = .ok (.getfield 10, 3) := by decide +kernel
theorem dX9_drawn_17 : decode cX9_drawn 17 = .ok (.getfield 204, 3) := by decide +kernel
theorem dX9_drawn_20 : decode cX9_drawn 20 = .ok (.ifCond .ne 8, 3) := by decide +kernel
theorem dX9_drawn_23 : decode cX9_drawn 23 = .ok (.bipush (-3), 2) := by decide +kernel
theorem dX9_drawn_25 : decode cX9_drawn 25 = .ok (.goto 9, 3) := by decide +kernel
theorem dX9_drawn_28 : decode cX9_drawn 28 = .ok (.aload_n 0, 1) := by decide +kernel
theorem dX9_drawn_29 : decode cX9_drawn 29 = .ok (.iload_n 1, 1) := by decide +kernel
theorem dX9_drawn_30 : decode cX9_drawn 30 = .ok (.iload_n 2, 1) := by decide +kernel
theorem dX9_drawn_31 : decode cX9_drawn 31 = .ok (.invokevirtual 280, 3) := by decide +kernel
theorem dX9_drawn_34 : decode cX9_drawn 34 = .ok (.ireturn, 1) := by decide +kernel
theorem dX9_touchingDrawn_0 : decode cX9_touchingDrawn 0 = .ok (.aload_n 0, 1) := by decide +kernel
theorem dX9_touchingDrawn_1 : decode cX9_touchingDrawn 1 = .ok (.getfield 60, 3) := by decide +kernel
theorem dX9_touchingDrawn_4 : decode cX9_touchingDrawn 4 = .ok (.invokevirtual 149, 3) := by decide +kernel
theorem dX9_touchingDrawn_7 : decode cX9_touchingDrawn 7 = .ok (.aload_n 0, 1) := by decide +kernel
theorem dX9_touchingDrawn_8 : decode cX9_touchingDrawn 8 = .ok (.getfield 10, 3) := by decide +kernel
theorem dX9_touchingDrawn_11 : decode cX9_touchingDrawn 11 = .ok (.getfield 204, 3) := by decide +kernel
theorem dX9_touchingDrawn_14 : decode cX9_touchingDrawn 14 = .ok (.istore_n 3, 1) := by decide +kernel
theorem dX9_touchingDrawn_15 : decode cX9_touchingDrawn 15 = .ok (.iload_n 1, 1) := by decide +kernel
theorem dX9_touchingDrawn_16 : decode cX9_touchingDrawn 16 = .ok (.istore 4, 2) := by decide +kernel
theorem dX9_touchingDrawn_18 : decode cX9_touchingDrawn 18 = .ok (.iconst 0, 1) := by decide +kernel
theorem dX9_touchingDrawn_19 : decode cX9_touchingDrawn 19 = .ok (.istore 5, 2) := by decide +kernel
theorem dX9_touchingDrawn_21 : decode cX9_touchingDrawn 21 = .ok (.iload 5, 2) := by decide +kernel
theorem dX9_touchingDrawn_23 : decode cX9_touchingDrawn 23 = .ok (.iload_n 2, 1) := by decide +kernel
theorem dX9_touchingDrawn_24 : decode cX9_touchingDrawn 24 = .ok (.if_icmp .ge 55, 3) := by decide +kernel
theorem dX9_touchingDrawn_27 : decode cX9_touchingDrawn 27 = .ok (.iload_n 3, 1) := by decide +kernel
theorem dX9_touchingDrawn_28 : decode cX9_touchingDrawn 28 = .ok (.ifCond .le 51, 3) := by decide +kernel
theorem dX9_touchingDrawn_31 : decode cX9_touchingDrawn 31 = .ok (.iload 4, 2) := by decide +kernel
theorem dX9_touchingDrawn_33 : decode cX9_touchingDrawn 33 = .ok (.ldc_w 283, 3) := by decide +kernel
theorem dX9_touchingDrawn_36 : decode cX9_touchingDrawn 36 = .ok (.imul, 1) := by decide +kernel
theorem dX9_touchingDrawn_37 : decode cX9_touchingDrawn 37 = .ok (.sipush 12345, 3) := by decide +kernel
theorem dX9_touchingDrawn_40 : decode cX9_touchingDrawn 40 = .ok (.iadd, 1) := by decide +kernel
theorem dX9_touchingDrawn_41 : decode cX9_touchingDrawn 41 = .ok (.istore 4, 2) := by decide +kernel
theorem dX9_touchingDrawn_43 : decode cX9_touchingDrawn 43 = .ok (.iload 4, 2) := by decide +kernel
theorem dX9_touchingDrawn_45 : decode cX9_touchingDrawn 45 = .ok (.bipush 9, 2) := by decide +kernel
theorem dX9_touchingDrawn_47 : decode cX9_touchingDrawn 47 = .ok (.iushr, 1) := by decide +kernel
theorem dX9_touchingDrawn_48 : decode cX9_touchingDrawn 48 = .ok (.iload_n 3, 1) := by decide +kernel
theorem dX9_touchingDrawn_49 : decode cX9_touchingDrawn 49 = .ok (.irem, 1) := by decide +kernel
theorem dX9_touchingDrawn_50 : decode cX9_touchingDrawn 50 = .ok (.istore 6, 2) := by decide +kernel
theorem dX9_touchingDrawn_52 : decode cX9_touchingDrawn 52 = .ok (.aload_n 0, 1) := by decide +kernel
theorem dX9_touchingDrawn_53 : decode cX9_touchingDrawn 53 = .ok (.getfield 60, 3) := by decide +kernel
theorem dX9_touchingDrawn_56 : decode cX9_touchingDrawn 56 = .ok (.iload 6, 2) := by decide +kernel
theorem dX9_touchingDrawn_58 : decode cX9_touchingDrawn 58 = .ok (.invokevirtual 152, 3) := by decide +kernel
theorem dX9_touchingDrawn_61 : decode cX9_touchingDrawn 61 = .ok (.ifCond .eq 12, 3) := by decide +kernel
theorem dX9_touchingDrawn_64 : decode cX9_touchingDrawn 64 = .ok (.aload_n 0, 1) := by decide +kernel
theorem dX9_touchingDrawn_65 : decode cX9_touchingDrawn 65 = .ok (.getfield 60, 3) := by decide +kernel
theorem dX9_touchingDrawn_68 : decode cX9_touchingDrawn 68 = .ok (.iload 6, 2) := by decide +kernel
theorem dX9_touchingDrawn_70 : decode cX9_touchingDrawn 70 = .ok (.invokevirtual 213, 3) := by decide +kernel
theorem dX9_touchingDrawn_73 : decode cX9_touchingDrawn 73 = .ok (.iinc 5 1, 3) := by decide +kernel
theorem dX9_touchingDrawn_76 : decode cX9_touchingDrawn 76 = .ok (.goto (-55), 3) := by decide +kernel
theorem dX9_touchingDrawn_79 : decode cX9_touchingDrawn 79 = .ok (.aload_n 0, 1) := by decide +kernel
theorem dX9_touchingDrawn_80 : decode cX9_touchingDrawn 80 = .ok (.getfield 60, 3) := by decide +kernel
theorem dX9_touchingDrawn_83 : decode cX9_touchingDrawn 83 = .ok (.getfield 193, 3) := by decide +kernel
theorem dX9_touchingDrawn_86 : decode cX9_touchingDrawn 86 = .ok (.ireturn, 1) := by decide +kernel
theorem dX9_chance_0 : decode cX9_chance 0 = .ok (.iload_n 2, 1) := by decide +kernel
theorem dX9_chance_1 : decode cX9_chance 1 = .ok (.iconst 1, 1) := by decide +kernel
theorem dX9_chance_2 : decode cX9_chance 2 = .ok (.if_icmp .lt 31, 3) := by decide +kernel
theorem dX9_chance_5 : decode cX9_chance 5 = .ok (.iload_n 2, 1) := by decide +kernel
theorem dX9_chance_6 : decode cX9_chance 6 = .ok (.bipush 20, 2) := by decide +kernel
theorem dX9_chance_8 : decode cX9_chance 8 = .ok (.if_icmp .gt 25, 3) := by decide +kernel
theorem dX9_chance_11 : decode cX9_chance 11 = .ok (.iload_n 3, 1) := by decide +kernel
theorem dX9_chance_12 : decode cX9_chance 12 = .ok (.ifCond .lt 21, 3) := by decide +kernel
theorem dX9_chance_15 : decode cX9_chance 15 = .ok (.iload_n 3, 1) := by decide +kernel
theorem dX9_chance_16 : decode cX9_chance 16 = .ok (.sipush 999, 3) := by decide +kernel
theorem dX9_chance_19 : decode cX9_chance 19 = .ok (.if_icmp .gt 14, 3) := by decide +kernel
theorem dX9_chance_22 : decode cX9_chance 22 = .ok (.iload 4, 2) := by decide +kernel
theorem dX9_chance_24 : decode cX9_chance 24 = .ok (.ifCond .lt 9, 3) := by decide +kernel
theorem dX9_chance_27 : decode cX9_chance 27 = .ok (.iload 4, 2) := by decide +kernel
theorem dX9_chance_29 : decode cX9_chance 29 = .ok (.iconst 1, 1) := by decide +kernel
theorem dX9_chance_30 : decode cX9_chance 30 = .ok (.if_icmp .le 7, 3) := by decide +kernel
theorem dX9_chance_33 : decode cX9_chance 33 = .ok (.ldc2_w 284, 3) := by decide +kernel
theorem dX9_chance_36 : decode cX9_chance 36 = .ok (.lreturn, 1) := by decide +kernel
theorem dX9_chance_37 : decode cX9_chance 37 = .ok (.aload_n 0, 1) := by decide +kernel
theorem dX9_chance_38 : decode cX9_chance 38 = .ok (.getfield 10, 3) := by decide +kernel
theorem dX9_chance_41 : decode cX9_chance 41 = .ok (.getfield 204, 3) := by decide +kernel
theorem dX9_chance_44 : decode cX9_chance 44 = .ok (.ifCond .ne 7, 3) := by decide +kernel
theorem dX9_chance_47 : decode cX9_chance 47 = .ok (.ldc2_w 284, 3) := by decide +kernel
theorem dX9_chance_50 : decode cX9_chance 50 = .ok (.lreturn, 1) := by decide +kernel
theorem dX9_chance_51 : decode cX9_chance 51 = .ok (.iconst 0, 1) := by decide +kernel
theorem dX9_chance_52 : decode cX9_chance 52 = .ok (.istore 5, 2) := by decide +kernel
theorem dX9_chance_54 : decode cX9_chance 54 = .ok (.iconst 0, 1) := by decide +kernel
theorem dX9_chance_55 : decode cX9_chance 55 = .ok (.istore 6, 2) := by decide +kernel
theorem dX9_chance_57 : decode cX9_chance 57 = .ok (.iload 6, 2) := by decide +kernel
theorem dX9_chance_59 : decode cX9_chance 59 = .ok (.iload_n 2, 1) := by decide +kernel
theorem dX9_chance_60 : decode cX9_chance 60 = .ok (.if_icmp .ge 26, 3) := by decide +kernel
theorem dX9_chance_63 : decode cX9_chance 63 = .ok (.aload_n 0, 1) := by decide +kernel
theorem dX9_chance_64 : decode cX9_chance 64 = .ok (.iload_n 1, 1) := by decide +kernel
theorem dX9_chance_65 : decode cX9_chance 65 = .ok (.iload 6, 2) := by decide +kernel
theorem dX9_chance_67 : decode cX9_chance 67 = .ok (.iadd, 1) := by decide +kernel
theorem dX9_chance_68 : decode cX9_chance 68 = .ok (.bipush 20, 2) := by decide +kernel
theorem dX9_chance_70 : decode cX9_chance 70 = .ok (.invokevirtual 280, 3) := by decide +kernel
theorem dX9_chance_73 : decode cX9_chance 73 = .ok (.iload_n 3, 1) := by decide +kernel
theorem dX9_chance_74 : decode cX9_chance 74 = .ok (.if_icmp .gt 6, 3) := by decide +kernel
theorem dX9_chance_77 : decode cX9_chance 77 = .ok (.iinc 5 1, 3) := by decide +kernel
theorem dX9_chance_80 : decode cX9_chance 80 = .ok (.iinc 6 1, 3) := by decide +kernel
theorem dX9_chance_83 : decode cX9_chance 83 = .ok (.goto (-26), 3) := by decide +kernel
theorem dX9_chance_86 : decode cX9_chance 86 = .ok (.iload 5, 2) := by decide +kernel
theorem dX9_chance_88 : decode cX9_chance 88 = .ok (.iload_n 2, 1) := by decide +kernel
theorem dX9_chance_89 : decode cX9_chance 89 = .ok (.invokestatic 286, 3) := by decide +kernel
theorem dX9_chance_92 : decode cX9_chance 92 = .ok (.istore 6, 2) := by decide +kernel
theorem dX9_chance_94 : decode cX9_chance 94 = .ok (.iload 6, 2) := by decide +kernel
theorem dX9_chance_96 : decode cX9_chance 96 = .ok (.ifCond .ne 7, 3) := by decide +kernel
theorem dX9_chance_99 : decode cX9_chance 99 = .ok (.ldc2_w 284, 3) := by decide +kernel
theorem dX9_chance_102 : decode cX9_chance 102 = .ok (.lreturn, 1) := by decide +kernel
theorem dX9_chance_103 : decode cX9_chance 103 = .ok (.iload 4, 2) := by decide +kernel
theorem dX9_chance_105 : decode cX9_chance 105 = .ok (.ifCond .ne 12, 3) := by decide +kernel
theorem dX9_chance_108 : decode cX9_chance 108 = .ok (.iload 5, 2) := by decide +kernel
theorem dX9_chance_110 : decode cX9_chance 110 = .ok (.iload 6, 2) := by decide +kernel
theorem dX9_chance_112 : decode cX9_chance 112 = .ok (.idiv, 1) := by decide +kernel
theorem dX9_chance_113 : decode cX9_chance 113 = .ok (.i2l, 1) := by decide +kernel
theorem dX9_chance_114 : decode cX9_chance 114 = .ok (.goto 8, 3) := by decide +kernel
theorem dX9_chance_117 : decode cX9_chance 117 = .ok (.iload_n 2, 1) := by decide +kernel
theorem dX9_chance_118 : decode cX9_chance 118 = .ok (.iload 6, 2) := by decide +kernel
theorem dX9_chance_120 : decode cX9_chance 120 = .ok (.idiv, 1) := by decide +kernel
theorem dX9_chance_121 : decode cX9_chance 121 = .ok (.i2l, 1) := by decide +kernel
theorem dX9_chance_122 : decode cX9_chance 122 = .ok (.lreturn, 1) := by decide +kernel
theorem dX9_commonDivisor_0 : decode cX9_commonDivisor 0 = .ok (.iload_n 1, 1) := by decide +kernel
theorem dX9_commonDivisor_1 : decode cX9_commonDivisor 1 = .ok (.istore_n 2, 1) := by decide +kernel
theorem dX9_commonDivisor_2 : decode cX9_commonDivisor 2 = .ok (.iload_n 2, 1) := by decide +kernel
theorem dX9_commonDivisor_3 : decode cX9_commonDivisor 3 = .ok (.iconst 1, 1) := by decide +kernel
theorem dX9_commonDivisor_4 : decode cX9_commonDivisor 4 = .ok (.if_icmp .le 23, 3) := by decide +kernel
theorem dX9_commonDivisor_7 : decode cX9_commonDivisor 7 = .ok (.iload_n 0, 1) := by decide +kernel
theorem dX9_commonDivisor_8 : decode cX9_commonDivisor 8 = .ok (.iload_n 2, 1) := by decide +kernel
theorem dX9_commonDivisor_9 : decode cX9_commonDivisor 9 = .ok (.irem, 1) := by decide +kernel
theorem dX9_commonDivisor_10 : decode cX9_commonDivisor 10 = .ok (.ifCond .ne 11, 3) := by decide +kernel
theorem dX9_commonDivisor_13 : decode cX9_commonDivisor 13 = .ok (.iload_n 1, 1) := by decide +kernel
theorem dX9_commonDivisor_14 : decode cX9_commonDivisor 14 = .ok (.iload_n 2, 1) := by decide +kernel
theorem dX9_commonDivisor_15 : decode cX9_commonDivisor 15 = .ok (.irem, 1) := by decide +kernel
theorem dX9_commonDivisor_16 : decode cX9_commonDivisor 16 = .ok (.ifCond .ne 5, 3) := by decide +kernel
theorem dX9_commonDivisor_19 : decode cX9_commonDivisor 19 = .ok (.iload_n 2, 1) := by decide +kernel
theorem dX9_commonDivisor_20 : decode cX9_commonDivisor 20 = .ok (.ireturn, 1) := by decide +kernel
theorem dX9_commonDivisor_21 : decode cX9_commonDivisor 21 = .ok (.iinc 2 (-1), 3) := by decide +kernel
theorem dX9_commonDivisor_24 : decode cX9_commonDivisor 24 = .ok (.goto (-22), 3) := by decide +kernel
theorem dX9_commonDivisor_27 : decode cX9_commonDivisor 27 = .ok (.iconst 1, 1) := by decide +kernel
theorem dX9_commonDivisor_28 : decode cX9_commonDivisor 28 = .ok (.ireturn, 1) := by decide +kernel
theorem dX9_image_0 : decode cX9_image 0 = .ok (.aload_n 0, 1) := by decide +kernel
theorem dX9_image_1 : decode cX9_image 1 = .ok (.getfield 16, 3) := by decide +kernel
theorem dX9_image_4 : decode cX9_image 4 = .ok (.aload_n 0, 1) := by decide +kernel
theorem dX9_image_5 : decode cX9_image 5 = .ok (.getfield 10, 3) := by decide +kernel
theorem dX9_image_8 : decode cX9_image 8 = .ok (.invokevirtual 289, 3) := by decide +kernel
theorem dX9_image_11 : decode cX9_image 11 = .ok (.aload_n 0, 1) := by decide +kernel
theorem dX9_image_12 : decode cX9_image 12 = .ok (.iconst 1, 1) := by decide +kernel
theorem dX9_image_13 : decode cX9_image 13 = .ok (.putfield 19, 3) := by decide +kernel
theorem dX9_image_16 : decode cX9_image 16 = .ok (.aload_n 0, 1) := by decide +kernel
theorem dX9_image_17 : decode cX9_image 17 = .ok (.getfield 10, 3) := by decide +kernel
theorem dX9_image_20 : decode cX9_image 20 = .ok (.getfield 204, 3) := by decide +kernel
theorem dX9_image_23 : decode cX9_image 23 = .ok (.ireturn, 1) := by decide +kernel
theorem dX9_back_0 : decode cX9_back 0 = .ok (.aload_n 0, 1) := by decide +kernel
theorem dX9_back_1 : decode cX9_back 1 = .ok (.getfield 19, 3) := by decide +kernel
theorem dX9_back_4 : decode cX9_back 4 = .ok (.ifCond .ne 6, 3) := by decide +kernel
theorem dX9_back_7 : decode cX9_back 7 = .ok (.bipush (-3), 2) := by decide +kernel
theorem dX9_back_9 : decode cX9_back 9 = .ok (.ireturn, 1) := by decide +kernel
theorem dX9_back_10 : decode cX9_back 10 = .ok (.aload_n 0, 1) := by decide +kernel
theorem dX9_back_11 : decode cX9_back 11 = .ok (.getfield 10, 3) := by decide +kernel
theorem dX9_back_14 : decode cX9_back 14 = .ok (.aload_n 0, 1) := by decide +kernel
theorem dX9_back_15 : decode cX9_back 15 = .ok (.getfield 16, 3) := by decide +kernel
theorem dX9_back_18 : decode cX9_back 18 = .ok (.invokevirtual 289, 3) := by decide +kernel
theorem dX9_back_21 : decode cX9_back 21 = .ok (.aload_n 0, 1) := by decide +kernel
theorem dX9_back_22 : decode cX9_back 22 = .ok (.getfield 10, 3) := by decide +kernel
theorem dX9_back_25 : decode cX9_back 25 = .ok (.getfield 204, 3) := by decide +kernel
theorem dX9_back_28 : decode cX9_back 28 = .ok (.ireturn, 1) := by decide +kernel
theorem dX9_count_0 : decode cX9_count 0 = .ok (.iload_n 1, 1) := by decide +kernel
theorem dX9_count_1 : decode cX9_count 1 = .ok (.tableswitch 87 0 5 #[39, 47, 55, 63, 71, 79], 39) := by decide +kernel
theorem dX9_count_40 : decode cX9_count 40 = .ok (.aload_n 0, 1) := by decide +kernel
theorem dX9_count_41 : decode cX9_count 41 = .ok (.getfield 10, 3) := by decide +kernel
theorem dX9_count_44 : decode cX9_count 44 = .ok (.getfield 204, 3) := by decide +kernel
theorem dX9_count_47 : decode cX9_count 47 = .ok (.ireturn, 1) := by decide +kernel
theorem dX9_count_48 : decode cX9_count 48 = .ok (.aload_n 0, 1) := by decide +kernel
theorem dX9_count_49 : decode cX9_count 49 = .ok (.getfield 10, 3) := by decide +kernel
theorem dX9_count_52 : decode cX9_count 52 = .ok (.getfield 248, 3) := by decide +kernel
theorem dX9_count_55 : decode cX9_count 55 = .ok (.ireturn, 1) := by decide +kernel
theorem dX9_count_56 : decode cX9_count 56 = .ok (.aload_n 0, 1) := by decide +kernel
theorem dX9_count_57 : decode cX9_count 57 = .ok (.getfield 10, 3) := by decide +kernel
theorem dX9_count_60 : decode cX9_count 60 = .ok (.invokevirtual 292, 3) := by decide +kernel
theorem dX9_count_63 : decode cX9_count 63 = .ok (.ireturn, 1) := by decide +kernel
theorem dX9_count_64 : decode cX9_count 64 = .ok (.aload_n 0, 1) := by decide +kernel
theorem dX9_count_65 : decode cX9_count 65 = .ok (.getfield 33, 3) := by decide +kernel
theorem dX9_count_68 : decode cX9_count 68 = .ok (.getfield 270, 3) := by decide +kernel
theorem dX9_count_71 : decode cX9_count 71 = .ok (.ireturn, 1) := by decide +kernel
theorem dX9_count_72 : decode cX9_count 72 = .ok (.aload_n 0, 1) := by decide +kernel
theorem dX9_count_73 : decode cX9_count 73 = .ok (.getfield 26, 3) := by decide +kernel
theorem dX9_count_76 : decode cX9_count 76 = .ok (.getfield 123, 3) := by decide +kernel
theorem dX9_count_79 : decode cX9_count 79 = .ok (.ireturn, 1) := by decide +kernel
theorem dX9_count_80 : decode cX9_count 80 = .ok (.aload_n 0, 1) := by decide +kernel
theorem dX9_count_81 : decode cX9_count 81 = .ok (.getfield 10, 3) := by decide +kernel
theorem dX9_count_84 : decode cX9_count 84 = .ok (.getfield 143, 3) := by decide +kernel
theorem dX9_count_87 : decode cX9_count 87 = .ok (.ireturn, 1) := by decide +kernel
theorem dX9_count_88 : decode cX9_count 88 = .ok (.bipush (-2), 2) := by decide +kernel
theorem dX9_count_90 : decode cX9_count 90 = .ok (.ireturn, 1) := by decide +kernel
theorem dX9_sheet_0 : decode cX9_sheet 0 = .ok (.iload_n 1, 1) := by decide +kernel
theorem dX9_sheet_1 : decode cX9_sheet 1 = .ok (.invokestatic 217, 3) := by decide +kernel
theorem dX9_sheet_4 : decode cX9_sheet 4 = .ok (.ifCond .ne 6, 3) := by decide +kernel
theorem dX9_sheet_7 : decode cX9_sheet 7 = .ok (.bipush (-2), 2) := by decide +kernel
theorem dX9_sheet_9 : decode cX9_sheet 9 = .ok (.ireturn, 1) := by decide +kernel
theorem dX9_sheet_10 : decode cX9_sheet 10 = .ok (.iload_n 2, 1) := by decide +kernel
theorem dX9_sheet_11 : decode cX9_sheet 11 = .ok (.iconst (-1), 1) := by decide +kernel
theorem dX9_sheet_12 : decode cX9_sheet 12 = .ok (.if_icmp .ne 15, 3) := by decide +kernel
theorem dX9_sheet_15 : decode cX9_sheet 15 = .ok (.aload_n 0, 1) := by decide +kernel
theorem dX9_sheet_16 : decode cX9_sheet 16 = .ok (.getfield 76, 3) := by decide +kernel
theorem dX9_sheet_19 : decode cX9_sheet 19 = .ok (.iload_n 1, 1) := by decide +kernel
theorem dX9_sheet_20 : decode cX9_sheet 20 = .ok (.iload_n 2, 1) := by decide +kernel
theorem dX9_sheet_21 : decode cX9_sheet 21 = .ok (.iconst 0, 1) := by decide +kernel
theorem dX9_sheet_22 : decode cX9_sheet 22 = .ok (.invokevirtual 274, 3) := by decide +kernel
theorem dX9_sheet_25 : decode cX9_sheet 25 = .ok (.iconst 1, 1) := by decide +kernel
theorem dX9_sheet_26 : decode cX9_sheet 26 = .ok (.ireturn, 1) := by decide +kernel
theorem dX9_sheet_27 : decode cX9_sheet 27 = .ok (.iload_n 2, 1) := by decide +kernel
theorem dX9_sheet_28 : decode cX9_sheet 28 = .ok (.invokestatic 295, 3) := by decide +kernel
theorem dX9_sheet_31 : decode cX9_sheet 31 = .ok (.ifCond .eq 9, 3) := by decide +kernel
theorem dX9_sheet_34 : decode cX9_sheet 34 = .ok (.iload_n 3, 1) := by decide +kernel
theorem dX9_sheet_35 : decode cX9_sheet 35 = .ok (.bipush 40, 2) := by decide +kernel
theorem dX9_sheet_37 : decode cX9_sheet 37 = .ok (.if_icmp .le 6, 3) := by decide +kernel
theorem dX9_sheet_40 : decode cX9_sheet 40 = .ok (.bipush (-2), 2) := by decide +kernel
theorem dX9_sheet_42 : decode cX9_sheet 42 = .ok (.ireturn, 1) := by decide +kernel
theorem dX9_sheet_43 : decode cX9_sheet 43 = .ok (.iload_n 3, 1) := by decide +kernel
theorem dX9_sheet_44 : decode cX9_sheet 44 = .ok (.ifCond .ge 6, 3) := by decide +kernel
theorem dX9_sheet_47 : decode cX9_sheet 47 = .ok (.bipush (-14), 2) := by decide +kernel
theorem dX9_sheet_49 : decode cX9_sheet 49 = .ok (.ireturn, 1) := by decide +kernel
theorem dX9_sheet_50 : decode cX9_sheet 50 = .ok (.aload_n 0, 1) := by decide +kernel
theorem dX9_sheet_51 : decode cX9_sheet 51 = .ok (.getfield 76, 3) := by decide +kernel
theorem dX9_sheet_54 : decode cX9_sheet 54 = .ok (.iload_n 1, 1) := by decide +kernel
theorem dX9_sheet_55 : decode cX9_sheet 55 = .ok (.iload_n 2, 1) := by decide +kernel
theorem dX9_sheet_56 : decode cX9_sheet 56 = .ok (.iload_n 3, 1) := by decide +kernel
theorem dX9_sheet_57 : decode cX9_sheet 57 = .ok (.invokevirtual 274, 3) := by decide +kernel
theorem dX9_sheet_60 : decode cX9_sheet 60 = .ok (.iconst 1, 1) := by decide +kernel
theorem dX9_sheet_61 : decode cX9_sheet 61 = .ok (.ireturn, 1) := by decide +kernel
theorem dX9_cell_0 : decode cX9_cell 0 = .ok (.iload_n 1, 1) := by decide +kernel
theorem dX9_cell_1 : decode cX9_cell 1 = .ok (.invokestatic 217, 3) := by decide +kernel
theorem dX9_cell_4 : decode cX9_cell 4 = .ok (.ifCond .ne 6, 3) := by decide +kernel
theorem dX9_cell_7 : decode cX9_cell 7 = .ok (.bipush (-2), 2) := by decide +kernel
theorem dX9_cell_9 : decode cX9_cell 9 = .ok (.ireturn, 1) := by decide +kernel
theorem dX9_cell_10 : decode cX9_cell 10 = .ok (.aload_n 0, 1) := by decide +kernel
theorem dX9_cell_11 : decode cX9_cell 11 = .ok (.getfield 76, 3) := by decide +kernel
theorem dX9_cell_14 : decode cX9_cell 14 = .ok (.iload_n 1, 1) := by decide +kernel
theorem dX9_cell_15 : decode cX9_cell 15 = .ok (.invokevirtual 220, 3) := by decide +kernel
theorem dX9_cell_18 : decode cX9_cell 18 = .ok (.ifCond .eq 6, 3) := by decide +kernel
theorem dX9_cell_21 : decode cX9_cell 21 = .ok (.bipush (-11), 2) := by decide +kernel
theorem dX9_cell_23 : decode cX9_cell 23 = .ok (.ireturn, 1) := by decide +kernel
theorem dX9_cell_24 : decode cX9_cell 24 = .ok (.aload_n 0, 1) := by decide +kernel
theorem dX9_cell_25 : decode cX9_cell 25 = .ok (.getfield 76, 3) := by decide +kernel
theorem dX9_cell_28 : decode cX9_cell 28 = .ok (.iload_n 1, 1) := by decide +kernel
theorem dX9_cell_29 : decode cX9_cell 29 = .ok (.iload_n 2, 1) := by decide +kernel
theorem dX9_cell_30 : decode cX9_cell 30 = .ok (.invokevirtual 298, 3) := by decide +kernel
theorem dX9_cell_33 : decode cX9_cell 33 = .ok (.ifCond .ne 6, 3) := by decide +kernel
theorem dX9_cell_36 : decode cX9_cell 36 = .ok (.bipush (-12), 2) := by decide +kernel
theorem dX9_cell_38 : decode cX9_cell 38 = .ok (.ireturn, 1) := by decide +kernel
theorem dX9_cell_39 : decode cX9_cell 39 = .ok (.aload_n 0, 1) := by decide +kernel
theorem dX9_cell_40 : decode cX9_cell 40 = .ok (.getfield 76, 3) := by decide +kernel
theorem dX9_cell_43 : decode cX9_cell 43 = .ok (.iload_n 1, 1) := by decide +kernel
theorem dX9_cell_44 : decode cX9_cell 44 = .ok (.iload_n 2, 1) := by decide +kernel
theorem dX9_cell_45 : decode cX9_cell 45 = .ok (.iload_n 3, 1) := by decide +kernel
theorem dX9_cell_46 : decode cX9_cell 46 = .ok (.invokevirtual 277, 3) := by decide +kernel
theorem dX9_cell_49 : decode cX9_cell 49 = .ok (.iconst 1, 1) := by decide +kernel
theorem dX9_cell_50 : decode cX9_cell 50 = .ok (.ireturn, 1) := by decide +kernel
theorem dX9_copy_0 : decode cX9_copy 0 = .ok (.iload_n 1, 1) := by decide +kernel
theorem dX9_copy_1 : decode cX9_copy 1 = .ok (.invokestatic 217, 3) := by decide +kernel
theorem dX9_copy_4 : decode cX9_copy 4 = .ok (.ifCond .eq 10, 3) := by decide +kernel
theorem dX9_copy_7 : decode cX9_copy 7 = .ok (.iload_n 3, 1) := by decide +kernel
theorem dX9_copy_8 : decode cX9_copy 8 = .ok (.invokestatic 217, 3) := by decide +kernel
theorem dX9_copy_11 : decode cX9_copy 11 = .ok (.ifCond .ne 6, 3) := by decide +kernel
theorem dX9_copy_14 : decode cX9_copy 14 = .ok (.bipush (-2), 2) := by decide +kernel
theorem dX9_copy_16 : decode cX9_copy 16 = .ok (.ireturn, 1) := by decide +kernel
theorem dX9_copy_17 : decode cX9_copy 17 = .ok (.aload_n 0, 1) := by decide +kernel
theorem dX9_copy_18 : decode cX9_copy 18 = .ok (.getfield 76, 3) := by decide +kernel
theorem dX9_copy_21 : decode cX9_copy 21 = .ok (.iload_n 1, 1) := by decide +kernel
theorem dX9_copy_22 : decode cX9_copy 22 = .ok (.invokevirtual 220, 3) := by decide +kernel
theorem dX9_copy_25 : decode cX9_copy 25 = .ok (.ifCond .ne 14, 3) := by decide +kernel
theorem dX9_copy_28 : decode cX9_copy 28 = .ok (.aload_n 0, 1) := by decide +kernel
theorem dX9_copy_29 : decode cX9_copy 29 = .ok (.getfield 76, 3) := by decide +kernel
theorem dX9_copy_32 : decode cX9_copy 32 = .ok (.iload_n 3, 1) := by decide +kernel
theorem dX9_copy_33 : decode cX9_copy 33 = .ok (.invokevirtual 220, 3) := by decide +kernel
theorem dX9_copy_36 : decode cX9_copy 36 = .ok (.ifCond .eq 6, 3) := by decide +kernel
theorem dX9_copy_39 : decode cX9_copy 39 = .ok (.bipush (-11), 2) := by decide +kernel
theorem dX9_copy_41 : decode cX9_copy 41 = .ok (.ireturn, 1) := by decide +kernel
theorem dX9_copy_42 : decode cX9_copy 42 = .ok (.aload_n 0, 1) := by decide +kernel
theorem dX9_copy_43 : decode cX9_copy 43 = .ok (.getfield 76, 3) := by decide +kernel
theorem dX9_copy_46 : decode cX9_copy 46 = .ok (.getfield 302, 3) := by decide +kernel
theorem dX9_copy_49 : decode cX9_copy 49 = .ok (.iload_n 1, 1) := by decide +kernel
theorem dX9_copy_50 : decode cX9_copy 50 = .ok (.iaload, 1) := by decide +kernel
theorem dX9_copy_51 : decode cX9_copy 51 = .ok (.aload_n 0, 1) := by decide +kernel
theorem dX9_copy_52 : decode cX9_copy 52 = .ok (.getfield 76, 3) := by decide +kernel
theorem dX9_copy_55 : decode cX9_copy 55 = .ok (.getfield 302, 3) := by decide +kernel
theorem dX9_copy_58 : decode cX9_copy 58 = .ok (.iload_n 3, 1) := by decide +kernel
theorem dX9_copy_59 : decode cX9_copy 59 = .ok (.iaload, 1) := by decide +kernel
theorem dX9_copy_60 : decode cX9_copy 60 = .ok (.if_icmp .eq 6, 3) := by decide +kernel
theorem dX9_copy_63 : decode cX9_copy 63 = .ok (.bipush (-13), 2) := by decide +kernel
theorem dX9_copy_65 : decode cX9_copy 65 = .ok (.ireturn, 1) := by decide +kernel
theorem dX9_copy_66 : decode cX9_copy 66 = .ok (.aload_n 0, 1) := by decide +kernel
theorem dX9_copy_67 : decode cX9_copy 67 = .ok (.getfield 76, 3) := by decide +kernel
theorem dX9_copy_70 : decode cX9_copy 70 = .ok (.iload_n 1, 1) := by decide +kernel
theorem dX9_copy_71 : decode cX9_copy 71 = .ok (.iload_n 2, 1) := by decide +kernel
theorem dX9_copy_72 : decode cX9_copy 72 = .ok (.iload 5, 2) := by decide +kernel
theorem dX9_copy_74 : decode cX9_copy 74 = .ok (.invokevirtual 305, 3) := by decide +kernel
theorem dX9_copy_77 : decode cX9_copy 77 = .ok (.ifCond .eq 18, 3) := by decide +kernel
theorem dX9_copy_80 : decode cX9_copy 80 = .ok (.aload_n 0, 1) := by decide +kernel
theorem dX9_copy_81 : decode cX9_copy 81 = .ok (.getfield 76, 3) := by decide +kernel
theorem dX9_copy_84 : decode cX9_copy 84 = .ok (.iload_n 3, 1) := by decide +kernel
theorem dX9_copy_85 : decode cX9_copy 85 = .ok (.iload 4, 2) := by decide +kernel
theorem dX9_copy_87 : decode cX9_copy 87 = .ok (.iload 5, 2) := by decide +kernel
theorem dX9_copy_89 : decode cX9_copy 89 = .ok (.invokevirtual 305, 3) := by decide +kernel
theorem dX9_copy_92 : decode cX9_copy 92 = .ok (.ifCond .ne 6, 3) := by decide +kernel
theorem dX9_copy_95 : decode cX9_copy 95 = .ok (.bipush (-12), 2) := by decide +kernel
theorem dX9_copy_97 : decode cX9_copy 97 = .ok (.ireturn, 1) := by decide +kernel
theorem dX9_copy_98 : decode cX9_copy 98 = .ok (.aload_n 0, 1) := by decide +kernel
theorem dX9_copy_99 : decode cX9_copy 99 = .ok (.getfield 76, 3) := by decide +kernel
theorem dX9_copy_102 : decode cX9_copy 102 = .ok (.getfield 229, 3) := by decide +kernel
theorem dX9_copy_105 : decode cX9_copy 105 = .ok (.iload_n 1, 1) := by decide +kernel
theorem dX9_copy_106 : decode cX9_copy 106 = .ok (.aaload, 1) := by decide +kernel
theorem dX9_copy_107 : decode cX9_copy 107 = .ok (.iload_n 2, 1) := by decide +kernel
theorem dX9_copy_108 : decode cX9_copy 108 = .ok (.aload_n 0, 1) := by decide +kernel
theorem dX9_copy_109 : decode cX9_copy 109 = .ok (.getfield 76, 3) := by decide +kernel
theorem dX9_copy_112 : decode cX9_copy 112 = .ok (.getfield 229, 3) := by decide +kernel
theorem dX9_copy_115 : decode cX9_copy 115 = .ok (.iload_n 3, 1) := by decide +kernel
theorem dX9_copy_116 : decode cX9_copy 116 = .ok (.aaload, 1) := by decide +kernel
theorem dX9_copy_117 : decode cX9_copy 117 = .ok (.iload 4, 2) := by decide +kernel
theorem dX9_copy_119 : decode cX9_copy 119 = .ok (.iload 5, 2) := by decide +kernel
theorem dX9_copy_121 : decode cX9_copy 121 = .ok (.invokestatic 309, 3) := by decide +kernel
theorem dX9_copy_124 : decode cX9_copy 124 = .ok (.iload 5, 2) := by decide +kernel
theorem dX9_copy_126 : decode cX9_copy 126 = .ok (.ireturn, 1) := by decide +kernel
theorem dX9_flowers_0 : decode cX9_flowers 0 = .ok (.iload_n 1, 1) := by decide +kernel
theorem dX9_flowers_1 : decode cX9_flowers 1 = .ok (.invokestatic 217, 3) := by decide +kernel
theorem dX9_flowers_4 : decode cX9_flowers 4 = .ok (.ifCond .eq 22, 3) := by decide +kernel
theorem dX9_flowers_7 : decode cX9_flowers 7 = .ok (.iload_n 2, 1) := by decide +kernel
theorem dX9_flowers_8 : decode cX9_flowers 8 = .ok (.invokestatic 295, 3) := by decide +kernel
theorem dX9_flowers_11 : decode cX9_flowers 11 = .ok (.ifCond .eq 15, 3) := by decide +kernel
theorem dX9_flowers_14 : decode cX9_flowers 14 = .ok (.iload 4, 2) := by decide +kernel
theorem dX9_flowers_16 : decode cX9_flowers 16 = .ok (.ifCond .lt 10, 3) := by decide +kernel
theorem dX9_flowers_19 : decode cX9_flowers 19 = .ok (.iload 4, 2) := by decide +kernel
theorem dX9_flowers_21 : decode cX9_flowers 21 = .ok (.bipush 6, 2) := by decide +kernel
theorem dX9_flowers_23 : decode cX9_flowers 23 = .ok (.if_icmp .le 6, 3) := by decide +kernel
theorem dX9_flowers_26 : decode cX9_flowers 26 = .ok (.bipush (-2), 2) := by decide +kernel
theorem dX9_flowers_28 : decode cX9_flowers 28 = .ok (.ireturn, 1) := by decide +kernel
theorem dX9_flowers_29 : decode cX9_flowers 29 = .ok (.aload_n 0, 1) := by decide +kernel
theorem dX9_flowers_30 : decode cX9_flowers 30 = .ok (.getfield 76, 3) := by decide +kernel
theorem dX9_flowers_33 : decode cX9_flowers 33 = .ok (.iload_n 1, 1) := by decide +kernel
theorem dX9_flowers_34 : decode cX9_flowers 34 = .ok (.invokevirtual 220, 3) := by decide +kernel
theorem dX9_flowers_37 : decode cX9_flowers 37 = .ok (.ifCond .eq 6, 3) := by decide +kernel
theorem dX9_flowers_40 : decode cX9_flowers 40 = .ok (.bipush (-11), 2) := by decide +kernel
theorem dX9_flowers_42 : decode cX9_flowers 42 = .ok (.ireturn, 1) := by decide +kernel
theorem dX9_flowers_43 : decode cX9_flowers 43 = .ok (.aload_n 0, 1) := by decide +kernel
theorem dX9_flowers_44 : decode cX9_flowers 44 = .ok (.getfield 76, 3) := by decide +kernel
theorem dX9_flowers_47 : decode cX9_flowers 47 = .ok (.getfield 302, 3) := by decide +kernel
theorem dX9_flowers_50 : decode cX9_flowers 50 = .ok (.iload_n 1, 1) := by decide +kernel
theorem dX9_flowers_51 : decode cX9_flowers 51 = .ok (.iaload, 1) := by decide +kernel
theorem dX9_flowers_52 : decode cX9_flowers 52 = .ok (.iload_n 2, 1) := by decide +kernel
theorem dX9_flowers_53 : decode cX9_flowers 53 = .ok (.if_icmp .eq 6, 3) := by decide +kernel
theorem dX9_flowers_56 : decode cX9_flowers 56 = .ok (.bipush (-13), 2) := by decide +kernel
theorem dX9_flowers_58 : decode cX9_flowers 58 = .ok (.ireturn, 1) := by decide +kernel
theorem dX9_flowers_59 : decode cX9_flowers 59 = .ok (.iconst 0, 1) := by decide +kernel
theorem dX9_flowers_60 : decode cX9_flowers 60 = .ok (.istore 5, 2) := by decide +kernel
theorem dX9_flowers_62 : decode cX9_flowers 62 = .ok (.iconst 0, 1) := by decide +kernel
theorem dX9_flowers_63 : decode cX9_flowers 63 = .ok (.istore 6, 2) := by decide +kernel
theorem dX9_flowers_65 : decode cX9_flowers 65 = .ok (.iload 6, 2) := by decide +kernel
theorem dX9_flowers_67 : decode cX9_flowers 67 = .ok (.iload 4, 2) := by decide +kernel
theorem dX9_flowers_69 : decode cX9_flowers 69 = .ok (.if_icmp .ge 77, 3) := by decide +kernel
theorem dX9_flowers_72 : decode cX9_flowers 72 = .ok (.iload_n 3, 1) := by decide +kernel
theorem dX9_flowers_73 : decode cX9_flowers 73 = .ok (.iconst 2, 1) := by decide +kernel
theorem dX9_flowers_74 : decode cX9_flowers 74 = .ok (.iload 6, 2) := by decide +kernel
theorem dX9_flowers_76 : decode cX9_flowers 76 = .ok (.imul, 1) := by decide +kernel
theorem dX9_flowers_77 : decode cX9_flowers 77 = .ok (.iadd, 1) := by decide +kernel
theorem dX9_flowers_78 : decode cX9_flowers 78 = .ok (.istore 7, 2) := by decide +kernel
theorem dX9_flowers_80 : decode cX9_flowers 80 = .ok (.aload_n 0, 1) := by decide +kernel
theorem dX9_flowers_81 : decode cX9_flowers 81 = .ok (.getfield 76, 3) := by decide +kernel
theorem dX9_flowers_84 : decode cX9_flowers 84 = .ok (.iload_n 1, 1) := by decide +kernel
theorem dX9_flowers_85 : decode cX9_flowers 85 = .ok (.iload 7, 2) := by decide +kernel
theorem dX9_flowers_87 : decode cX9_flowers 87 = .ok (.iconst 2, 1) := by decide +kernel
theorem dX9_flowers_88 : decode cX9_flowers 88 = .ok (.invokevirtual 305, 3) := by decide +kernel
theorem dX9_flowers_91 : decode cX9_flowers 91 = .ok (.ifCond .ne 6, 3) := by decide +kernel
theorem dX9_flowers_94 : decode cX9_flowers 94 = .ok (.bipush (-12), 2) := by decide +kernel
theorem dX9_flowers_96 : decode cX9_flowers 96 = .ok (.ireturn, 1) := by decide +kernel
theorem dX9_flowers_97 : decode cX9_flowers 97 = .ok (.aload_n 0, 1) := by decide +kernel
theorem dX9_flowers_98 : decode cX9_flowers 98 = .ok (.getfield 76, 3) := by decide +kernel
theorem dX9_flowers_101 : decode cX9_flowers 101 = .ok (.iload_n 1, 1) := by decide +kernel
theorem dX9_flowers_102 : decode cX9_flowers 102 = .ok (.iload 7, 2) := by decide +kernel
theorem dX9_flowers_104 : decode cX9_flowers 104 = .ok (.invokevirtual 226, 3) := by decide +kernel
theorem dX9_flowers_107 : decode cX9_flowers 107 = .ok (.istore 8, 2) := by decide +kernel
theorem dX9_flowers_109 : decode cX9_flowers 109 = .ok (.aload_n 0, 1) := by decide +kernel
theorem dX9_flowers_110 : decode cX9_flowers 110 = .ok (.getfield 76, 3) := by decide +kernel
theorem dX9_flowers_113 : decode cX9_flowers 113 = .ok (.iload_n 1, 1) := by decide +kernel
theorem dX9_flowers_114 : decode cX9_flowers 114 = .ok (.iload 7, 2) := by decide +kernel
theorem dX9_flowers_116 : decode cX9_flowers 116 = .ok (.iconst 1, 1) := by decide +kernel
theorem dX9_flowers_117 : decode cX9_flowers 117 = .ok (.iadd, 1) := by decide +kernel
theorem dX9_flowers_118 : decode cX9_flowers 118 = .ok (.invokevirtual 226, 3) := by decide +kernel
theorem dX9_flowers_121 : decode cX9_flowers 121 = .ok (.istore 9, 2) := by decide +kernel
theorem dX9_flowers_123 : decode cX9_flowers 123 = .ok (.aload_n 0, 1) := by decide +kernel
theorem dX9_flowers_124 : decode cX9_flowers 124 = .ok (.getfield 10, 3) := by decide +kernel
theorem dX9_flowers_127 : decode cX9_flowers 127 = .ok (.iload 8, 2) := by decide +kernel
theorem dX9_flowers_129 : decode cX9_flowers 129 = .ok (.iload 9, 2) := by decide +kernel
theorem dX9_flowers_131 : decode cX9_flowers 131 = .ok (.invokevirtual 96, 3) := by decide +kernel
theorem dX9_flowers_134 : decode cX9_flowers 134 = .ok (.ifCond .lt 6, 3) := by decide +kernel
theorem dX9_flowers_137 : decode cX9_flowers 137 = .ok (.iinc 5 1, 3) := by decide +kernel
theorem dX9_flowers_140 : decode cX9_flowers 140 = .ok (.iinc 6 1, 3) := by decide +kernel
theorem dX9_flowers_143 : decode cX9_flowers 143 = .ok (.goto (-78), 3) := by decide +kernel
theorem dX9_flowers_146 : decode cX9_flowers 146 = .ok (.iload 5, 2) := by decide +kernel
theorem dX9_flowers_148 : decode cX9_flowers 148 = .ok (.ireturn, 1) := by decide +kernel
theorem dX9_taken_0 : decode cX9_taken 0 = .ok (.iload_n 2, 1) := by decide +kernel
theorem dX9_taken_1 : decode cX9_taken 1 = .ok (.invokestatic 315, 3) := by decide +kernel
theorem dX9_taken_4 : decode cX9_taken 4 = .ok (.ifCond .ne 6, 3) := by decide +kernel
theorem dX9_taken_7 : decode cX9_taken 7 = .ok (.bipush (-2), 2) := by decide +kernel
theorem dX9_taken_9 : decode cX9_taken 9 = .ok (.ireturn, 1) := by decide +kernel
theorem dX9_taken_10 : decode cX9_taken 10 = .ok (.aload_n 0, 1) := by decide +kernel
theorem dX9_taken_11 : decode cX9_taken 11 = .ok (.getfield 10, 3) := by decide +kernel
theorem dX9_taken_14 : decode cX9_taken 14 = .ok (.iload_n 1, 1) := by decide +kernel
theorem dX9_taken_15 : decode cX9_taken 15 = .ok (.invokevirtual 84, 3) := by decide +kernel
theorem dX9_taken_18 : decode cX9_taken 18 = .ok (.ifCond .ne 6, 3) := by decide +kernel
theorem dX9_taken_21 : decode cX9_taken 21 = .ok (.bipush (-11), 2) := by decide +kernel
theorem dX9_taken_23 : decode cX9_taken 23 = .ok (.ireturn, 1) := by decide +kernel
theorem dX9_taken_24 : decode cX9_taken 24 = .ok (.aload_n 0, 1) := by decide +kernel
theorem dX9_taken_25 : decode cX9_taken 25 = .ok (.getfield 10, 3) := by decide +kernel
theorem dX9_taken_28 : decode cX9_taken 28 = .ok (.getfield 103, 3) := by decide +kernel
theorem dX9_taken_31 : decode cX9_taken 31 = .ok (.iload_n 1, 1) := by decide +kernel
theorem dX9_taken_32 : decode cX9_taken 32 = .ok (.iaload, 1) := by decide +kernel
theorem dX9_taken_33 : decode cX9_taken 33 = .ok (.iload_n 2, 1) := by decide +kernel
theorem dX9_taken_34 : decode cX9_taken 34 = .ok (.invokestatic 320, 3) := by decide +kernel
theorem dX9_taken_37 : decode cX9_taken 37 = .ok (.ifCond .eq 15, 3) := by decide +kernel
theorem dX9_taken_40 : decode cX9_taken 40 = .ok (.aload_n 0, 1) := by decide +kernel
theorem dX9_taken_41 : decode cX9_taken 41 = .ok (.getfield 10, 3) := by decide +kernel
theorem dX9_taken_44 : decode cX9_taken 44 = .ok (.getfield 323, 3) := by decide +kernel
theorem dX9_taken_47 : decode cX9_taken 47 = .ok (.iload_n 1, 1) := by decide +kernel
theorem dX9_taken_48 : decode cX9_taken 48 = .ok (.iaload, 1) := by decide +kernel
theorem dX9_taken_49 : decode cX9_taken 49 = .ok (.goto 5, 3) := by decide +kernel
theorem dX9_taken_52 : decode cX9_taken 52 = .ok (.bipush (-13), 2) := by decide +kernel
theorem dX9_taken_54 : decode cX9_taken 54 = .ok (.ireturn, 1) := by decide +kernel
theorem dX10_in_0 : decode cX10_in 0 = .ok (.lload_n 0, 1) := by decide +kernel
theorem dX10_in_1 : decode cX10_in 1 = .ok (.lload_n 2, 1) := by decide +kernel
theorem dX10_in_2 : decode cX10_in 2 = .ok (.lcmp, 1) := by decide +kernel
theorem dX10_in_3 : decode cX10_in 3 = .ok (.ifCond .lt 14, 3) := by decide +kernel
theorem dX10_in_6 : decode cX10_in 6 = .ok (.lload_n 0, 1) := by decide +kernel
theorem dX10_in_7 : decode cX10_in 7 = .ok (.lload 4, 2) := by decide +kernel
theorem dX10_in_9 : decode cX10_in 9 = .ok (.lcmp, 1) := by decide +kernel
theorem dX10_in_10 : decode cX10_in 10 = .ok (.ifCond .gt 7, 3) := by decide +kernel
theorem dX10_in_13 : decode cX10_in 13 = .ok (.iconst 1, 1) := by decide +kernel
theorem dX10_in_14 : decode cX10_in 14 = .ok (.goto 4, 3) := by decide +kernel
theorem dX10_in_17 : decode cX10_in 17 = .ok (.iconst 0, 1) := by decide +kernel
theorem dX10_in_18 : decode cX10_in 18 = .ok (.ireturn, 1) := by decide +kernel
theorem dX10_within_0 : decode cX10_within 0 = .ok (.iload_n 0, 1) := by decide +kernel
theorem dX10_within_1 : decode cX10_within 1 = .ok (.iload_n 1, 1) := by decide +kernel
theorem dX10_within_2 : decode cX10_within 2 = .ok (.if_icmp .ge 7, 3) := by decide +kernel
theorem dX10_within_5 : decode cX10_within 5 = .ok (.iload_n 1, 1) := by decide +kernel
theorem dX10_within_6 : decode cX10_within 6 = .ok (.goto 13, 3) := by decide +kernel
theorem dX10_within_9 : decode cX10_within 9 = .ok (.iload_n 0, 1) := by decide +kernel
theorem dX10_within_10 : decode cX10_within 10 = .ok (.iload_n 2, 1) := by decide +kernel
theorem dX10_within_11 : decode cX10_within 11 = .ok (.if_icmp .le 7, 3) := by decide +kernel
theorem dX10_within_14 : decode cX10_within 14 = .ok (.iload_n 2, 1) := by decide +kernel
theorem dX10_within_15 : decode cX10_within 15 = .ok (.goto 4, 3) := by decide +kernel
theorem dX10_within_18 : decode cX10_within 18 = .ok (.iload_n 0, 1) := by decide +kernel
theorem dX10_within_19 : decode cX10_within 19 = .ok (.ireturn, 1) := by decide +kernel
theorem dX10_init_0 : decode cX10_init 0 = .ok (.aload_n 0, 1) := by decide +kernel
theorem dX10_init_1 : decode cX10_init 1 = .ok (.invokespecial 7, 3) := by decide +kernel
theorem dX10_init_4 : decode cX10_init 4 = .ok (.aload_n 0, 1) := by decide +kernel
theorem dX10_init_5 : decode cX10_init 5 = .ok (.sipush 960, 3) := by decide +kernel
theorem dX10_init_8 : decode cX10_init 8 = .ok (.newarray .int, 2) := by decide +kernel
theorem dX10_init_10 : decode cX10_init 10 = .ok (.putfield 13, 3) := by decide +kernel
theorem dX10_init_13 : decode cX10_init 13 = .ok (.aload_n 0, 1) := by decide +kernel
theorem dX10_init_14 : decode cX10_init 14 = .ok (.bipush 6, 2) := by decide +kernel
theorem dX10_init_16 : decode cX10_init 16 = .ok (.newarray .int, 2) := by decide +kernel
theorem dX10_init_18 : decode cX10_init 18 = .ok (.putfield 17, 3) := by decide +kernel
theorem dX10_init_21 : decode cX10_init 21 = .ok (.aload_n 0, 1) := by decide +kernel
theorem dX10_init_22 : decode cX10_init 22 = .ok (.sipush 160, 3) := by decide +kernel
theorem dX10_init_25 : decode cX10_init 25 = .ok (.newarray .int, 2) := by decide +kernel
theorem dX10_init_27 : decode cX10_init 27 = .ok (.putfield 20, 3) := by decide +kernel
theorem dX10_init_30 : decode cX10_init 30 = .ok (.aload_n 0, 1) := by decide +kernel
theorem dX10_init_31 : decode cX10_init 31 = .ok (.sipush 200, 3) := by decide +kernel
theorem dX10_init_34 : decode cX10_init 34 = .ok (.putfield 23, 3) := by decide +kernel
theorem dX10_init_37 : decode cX10_init 37 = .ok (.aload_n 0, 1) := by decide +kernel
theorem dX10_init_38 : decode cX10_init 38 = .ok (.bipush 6, 2) := by decide +kernel
theorem dX10_init_40 : decode cX10_init 40 = .ok (.newarray .int, 2) := by decide +kernel
theorem dX10_init_42 : decode cX10_init 42 = .ok (.putfield 26, 3) := by decide +kernel
theorem dX10_init_45 : decode cX10_init 45 = .ok (.aload_n 0, 1) := by decide +kernel
theorem dX10_init_46 : decode cX10_init 46 = .ok (.bipush 18, 2) := by decide +kernel
theorem dX10_init_48 : decode cX10_init 48 = .ok (.newarray .int, 2) := by decide +kernel
theorem dX10_init_50 : decode cX10_init 50 = .ok (.putfield 29, 3) := by decide +kernel
theorem dX10_init_53 : decode cX10_init 53 = .ok (.aload_n 0, 1) := by decide +kernel
theorem dX10_init_54 : decode cX10_init 54 = .ok (.bipush 40, 2) := by decide +kernel
theorem dX10_init_56 : decode cX10_init 56 = .ok (.newarray .int, 2) := by decide +kernel
theorem dX10_init_58 : decode cX10_init 58 = .ok (.putfield 32, 3) := by decide +kernel
theorem dX10_init_61 : decode cX10_init 61 = .ok (.aload_n 0, 1) := by decide +kernel
theorem dX10_init_62 : decode cX10_init 62 = .ok (.bipush 40, 2) := by decide +kernel
theorem dX10_init_64 : decode cX10_init 64 = .ok (.newarray .int, 2) := by decide +kernel
theorem dX10_init_66 : decode cX10_init 66 = .ok (.putfield 35, 3) := by decide +kernel
theorem dX10_init_69 : decode cX10_init 69 = .ok (.aload_n 0, 1) := by decide +kernel
theorem dX10_init_70 : decode cX10_init 70 = .ok (.bipush 6, 2) := by decide +kernel
theorem dX10_init_72 : decode cX10_init 72 = .ok (.newarray .int, 2) := by decide +kernel
theorem dX10_init_74 : decode cX10_init 74 = .ok (.putfield 38, 3) := by decide +kernel
theorem dX10_init_77 : decode cX10_init 77 = .ok (.aload_n 0, 1) := by decide +kernel
theorem dX10_init_78 : decode cX10_init 78 = .ok (.bipush 20, 2) := by decide +kernel
theorem dX10_init_80 : decode cX10_init 80 = .ok (.newarray .int, 2) := by decide +kernel
theorem dX10_init_82 : decode cX10_init 82 = .ok (.putfield 41, 3) := by decide +kernel
theorem dX10_init_85 : decode cX10_init 85 = .ok (.aload_n 0, 1) := by decide +kernel
theorem dX10_init_86 : decode cX10_init 86 = .ok (.bipush 18, 2) := by decide +kernel
theorem dX10_init_88 : decode cX10_init 88 = .ok (.newarray .int, 2) := by decide +kernel
theorem dX10_init_90 : decode cX10_init 90 = .ok (.putfield 44, 3) := by decide +kernel
theorem dX10_init_93 : decode cX10_init 93 = .ok (.aload_n 0, 1) := by decide +kernel
theorem dX10_init_94 : decode cX10_init 94 = .ok (.bipush 40, 2) := by decide +kernel
theorem dX10_init_96 : decode cX10_init 96 = .ok (.newarray .int, 2) := by decide +kernel
theorem dX10_init_98 : decode cX10_init 98 = .ok (.putfield 47, 3) := by decide +kernel
theorem dX10_init_101 : decode cX10_init 101 = .ok (.aload_n 0, 1) := by decide +kernel
theorem dX10_init_102 : decode cX10_init 102 = .ok (.bipush 40, 2) := by decide +kernel
theorem dX10_init_104 : decode cX10_init 104 = .ok (.newarray .int, 2) := by decide +kernel
theorem dX10_init_106 : decode cX10_init 106 = .ok (.putfield 50, 3) := by decide +kernel
theorem dX10_init_109 : decode cX10_init 109 = .ok (.aload_n 0, 1) := by decide +kernel
theorem dX10_init_110 : decode cX10_init 110 = .ok (.iconst (-1), 1) := by decide +kernel
theorem dX10_init_111 : decode cX10_init 111 = .ok (.putfield 53, 3) := by decide +kernel
theorem dX10_init_114 : decode cX10_init 114 = .ok (.aload_n 0, 1) := by decide +kernel
theorem dX10_init_115 : decode cX10_init 115 = .ok (.iconst 4, 1) := by decide +kernel
theorem dX10_init_116 : decode cX10_init 116 = .ok (.newarray .boolean, 2) := by decide +kernel
theorem dX10_init_118 : decode cX10_init 118 = .ok (.putfield 56, 3) := by decide +kernel
theorem dX10_init_121 : decode cX10_init 121 = .ok (.aload_n 0, 1) := by decide +kernel
theorem dX10_init_122 : decode cX10_init 122 = .ok (.iconst 4, 1) := by decide +kernel
theorem dX10_init_123 : decode cX10_init 123 = .ok (.newarray .int, 2) := by decide +kernel
theorem dX10_init_125 : decode cX10_init 125 = .ok (.putfield 60, 3) := by decide +kernel
theorem dX10_init_128 : decode cX10_init 128 = .ok (.aload_n 0, 1) := by decide +kernel
theorem dX10_init_129 : decode cX10_init 129 = .ok (.iconst 4, 1) := by decide +kernel
theorem dX10_init_130 : decode cX10_init 130 = .ok (.newarray .int, 2) := by decide +kernel
theorem dX10_init_132 : decode cX10_init 132 = .ok (.putfield 63, 3) := by decide +kernel
theorem dX10_init_135 : decode cX10_init 135 = .ok (.aload_n 0, 1) := by decide +kernel
theorem dX10_init_136 : decode cX10_init 136 = .ok (.sipush 160, 3) := by decide +kernel
theorem dX10_init_139 : decode cX10_init 139 = .ok (.newarray .int, 2) := by decide +kernel
theorem dX10_init_141 : decode cX10_init 141 = .ok (.putfield 66, 3) := by decide +kernel
theorem dX10_init_144 : decode cX10_init 144 = .ok (.aload_n 0, 1) := by decide +kernel
theorem dX10_init_145 : decode cX10_init 145 = .ok (.iconst 0, 1) := by decide +kernel
theorem dX10_init_146 : decode cX10_init 146 = .ok (.bipush 116, 2) := by decide +kernel
theorem dX10_init_148 : decode cX10_init 148 = .ok (.bipush 117, 2) := by decide +kernel
theorem dX10_init_150 : decode cX10_init 150 = .ok (.bipush 114, 2) := by decide +kernel
theorem dX10_init_152 : decode cX10_init 152 = .ok (.bipush 110, 2) := by decide +kernel
theorem dX10_init_154 : decode cX10_init 154 = .ok (.bipush 115, 2) := by decide +kernel
theorem dX10_init_156 : decode cX10_init 156 = .ok (.bipush 32, 2) := by decide +kernel
theorem dX10_init_158 : decode cX10_init 158 = .ok (.bipush 51, 2) := by decide +kernel
theorem dX10_init_160 : decode cX10_init 160 = .ok (.bipush 32, 2) := by decide +kernel
theorem dX10_init_162 : decode cX10_init 162 = .ok (.invokevirtual 69, 3) := by decide +kernel
theorem dX10_init_165 : decode cX10_init 165 = .ok (.aload_n 0, 1) := by decide +kernel
theorem dX10_init_166 : decode cX10_init 166 = .ok (.bipush 8, 2) := by decide +kernel
theorem dX10_init_168 : decode cX10_init 168 = .ok (.bipush 59, 2) := by decide +kernel
theorem dX10_init_170 : decode cX10_init 170 = .ok (.bipush 32, 2) := by decide +kernel
theorem dX10_init_172 : decode cX10_init 172 = .ok (.bipush 99, 2) := by decide +kernel
theorem dX10_init_174 : decode cX10_init 174 = .ok (.bipush 111, 2) := by decide +kernel
theorem dX10_init_176 : decode cX10_init 176 = .ok (.bipush 115, 2) := by decide +kernel
theorem dX10_init_178 : decode cX10_init 178 = .ok (.bipush 116, 2) := by decide +kernel
theorem dX10_init_180 : decode cX10_init 180 = .ok (.bipush 115, 2) := by decide +kernel
theorem dX10_init_182 : decode cX10_init 182 = .ok (.bipush 32, 2) := by decide +kernel
theorem dX10_init_184 : decode cX10_init 184 = .ok (.invokevirtual 69, 3) := by decide +kernel
theorem dX10_init_187 : decode cX10_init 187 = .ok (.aload_n 0, 1) := by decide +kernel
theorem dX10_init_188 : decode cX10_init 188 = .ok (.bipush 16, 2) := by decide +kernel
theorem dX10_init_190 : decode cX10_init 190 = .ok (.bipush 49, 2) := by decide +kernel
theorem dX10_init_192 : decode cX10_init 192 = .ok (.bipush 48, 2) := by decide +kernel
theorem dX10_init_194 : decode cX10_init 194 = .ok (.bipush 32, 2) := by decide +kernel
theorem dX10_init_196 : decode cX10_init 196 = .ok (.bipush 59, 2) := by decide +kernel
theorem dX10_init_198 : decode cX10_init 198 = .ok (.bipush 32, 2) := by decide +kernel
theorem dX10_init_200 : decode cX10_init 200 = .ok (.bipush 108, 2) := by decide +kernel
theorem dX10_init_202 : decode cX10_init 202 = .ok (.bipush 97, 2) := by decide +kernel
theorem dX10_init_204 : decode cX10_init 204 = .ok (.bipush 115, 2) := by decide +kernel
theorem dX10_init_206 : decode cX10_init 206 = .ok (.invokevirtual 69, 3) := by decide +kernel
theorem dX10_init_209 : decode cX10_init 209 = .ok (.aload_n 0, 1) := by decide +kernel
theorem dX10_init_210 : decode cX10_init 210 = .ok (.bipush 24, 2) := by decide +kernel
theorem dX10_init_212 : decode cX10_init 212 = .ok (.bipush 116, 2) := by decide +kernel
theorem dX10_init_214 : decode cX10_init 214 = .ok (.bipush 115, 2) := by decide +kernel
theorem dX10_init_216 : decode cX10_init 216 = .ok (.bipush 32, 2) := by decide +kernel
theorem dX10_init_218 : decode cX10_init 218 = .ok (.bipush 53, 2) := by decide +kernel
theorem dX10_init_220 : decode cX10_init 220 = .ok (.bipush 32, 2) := by decide +kernel
theorem dX10_init_222 : decode cX10_init 222 = .ok (.bipush 59, 2) := by decide +kernel
theorem dX10_init_224 : decode cX10_init 224 = .ok (.bipush 32, 2) := by decide +kernel
theorem dX10_init_226 : decode cX10_init 226 = .ok (.bipush 32, 2) := by decide +kernel
theorem dX10_init_228 : decode cX10_init 228 = .ok (.invokevirtual 69, 3) := by decide +kernel
theorem dX10_init_231 : decode cX10_init 231 = .ok (.aload_n 0, 1) := by decide +kernel
theorem dX10_init_232 : decode cX10_init 232 = .ok (.getfield 17, 3) := by decide +kernel
theorem dX10_init_235 : decode cX10_init 235 = .ok (.iconst 0, 1) := by decide +kernel
theorem dX10_init_236 : decode cX10_init 236 = .ok (.bipush 32, 2) := by decide +kernel
theorem dX10_init_238 : decode cX10_init 238 = .ok (.iastore, 1) := by decide +kernel
theorem dX10_init_239 : decode cX10_init 239 = .ok (.aload_n 0, 1) := by decide +kernel
theorem dX10_init_240 : decode cX10_init 240 = .ok (.iconst 1, 1) := by decide +kernel
theorem dX10_init_241 : decode cX10_init 241 = .ok (.putfield 73, 3) := by decide +kernel
theorem dX10_init_244 : decode cX10_init 244 = .ok (.return_, 1) := by decide +kernel
theorem dX10_spell_0 : decode cX10_spell 0 = .ok (.aload_n 0, 1) := by decide +kernel
theorem dX10_spell_1 : decode cX10_spell 1 = .ok (.getfield 13, 3) := by decide +kernel
theorem dX10_spell_4 : decode cX10_spell 4 = .ok (.iload_n 1, 1) := by decide +kernel
theorem dX10_spell_5 : decode cX10_spell 5 = .ok (.iload_n 2, 1) := by decide +kernel
theorem dX10_spell_6 : decode cX10_spell 6 = .ok (.iastore, 1) := by decide +kernel
theorem dX10_spell_7 : decode cX10_spell 7 = .ok (.aload_n 0, 1) := by decide +kernel
theorem dX10_spell_8 : decode cX10_spell 8 = .ok (.getfield 13, 3) := by decide +kernel
theorem dX10_spell_11 : decode cX10_spell 11 = .ok (.iload_n 1, 1) := by decide +kernel
theorem dX10_spell_12 : decode cX10_spell 12 = .ok (.iconst 1, 1) := by decide +kernel
theorem dX10_spell_13 : decode cX10_spell 13 = .ok (.iadd, 1) := by decide +kernel
theorem dX10_spell_14 : decode cX10_spell 14 = .ok (.iload_n 3, 1) := by decide +kernel
theorem dX10_spell_15 : decode cX10_spell 15 = .ok (.iastore, 1) := by decide +kernel
theorem dX10_spell_16 : decode cX10_spell 16 = .ok (.aload_n 0, 1) := by decide +kernel
theorem dX10_spell_17 : decode cX10_spell 17 = .ok (.getfield 13, 3) := by decide +kernel
theorem dX10_spell_20 : decode cX10_spell 20 = .ok (.iload_n 1, 1) := by decide +kernel
theorem dX10_spell_21 : decode cX10_spell 21 = .ok (.iconst 2, 1) := by decide +kernel
theorem dX10_spell_22 : decode cX10_spell 22 = .ok (.iadd, 1) := by decide +kernel
theorem dX10_spell_23 : decode cX10_spell 23 = .ok (.iload 4, 2) := by decide +kernel
theorem dX10_spell_25 : decode cX10_spell 25 = .ok (.iastore, 1) := by decide +kernel
theorem dX10_spell_26 : decode cX10_spell 26 = .ok (.aload_n 0, 1) := by decide +kernel
theorem dX10_spell_27 : decode cX10_spell 27 = .ok (.getfield 13, 3) := by decide +kernel
theorem dX10_spell_30 : decode cX10_spell 30 = .ok (.iload_n 1, 1) := by decide +kernel
theorem dX10_spell_31 : decode cX10_spell 31 = .ok (.iconst 3, 1) := by decide +kernel
theorem dX10_spell_32 : decode cX10_spell 32 = .ok (.iadd, 1) := by decide +kernel
theorem dX10_spell_33 : decode cX10_spell 33 = .ok (.iload 5, 2) := by decide +kernel
theorem dX10_spell_35 : decode cX10_spell 35 = .ok (.iastore, 1) := by decide +kernel
theorem dX10_spell_36 : decode cX10_spell 36 = .ok (.aload_n 0, 1) := by decide +kernel
theorem dX10_spell_37 : decode cX10_spell 37 = .ok (.getfield 13, 3) := by decide +kernel
theorem dX10_spell_40 : decode cX10_spell 40 = .ok (.iload_n 1, 1) := by decide +kernel
theorem dX10_spell_41 : decode cX10_spell 41 = .ok (.iconst 4, 1) := by decide +kernel
theorem dX10_spell_42 : decode cX10_spell 42 = .ok (.iadd, 1) := by decide +kernel
theorem dX10_spell_43 : decode cX10_spell 43 = .ok (.iload 6, 2) := by decide +kernel
theorem dX10_spell_45 : decode cX10_spell 45 = .ok (.iastore, 1) := by decide +kernel
theorem dX10_spell_46 : decode cX10_spell 46 = .ok (.aload_n 0, 1) := by decide +kernel
theorem dX10_spell_47 : decode cX10_spell 47 = .ok (.getfield 13, 3) := by decide +kernel
theorem dX10_spell_50 : decode cX10_spell 50 = .ok (.iload_n 1, 1) := by decide +kernel
theorem dX10_spell_51 : decode cX10_spell 51 = .ok (.iconst 5, 1) := by decide +kernel
theorem dX10_spell_52 : decode cX10_spell 52 = .ok (.iadd, 1) := by decide +kernel
theorem dX10_spell_53 : decode cX10_spell 53 = .ok (.iload 7, 2) := by decide +kernel
theorem dX10_spell_55 : decode cX10_spell 55 = .ok (.iastore, 1) := by decide +kernel
theorem dX10_spell_56 : decode cX10_spell 56 = .ok (.aload_n 0, 1) := by decide +kernel
theorem dX10_spell_57 : decode cX10_spell 57 = .ok (.getfield 13, 3) := by decide +kernel
theorem dX10_spell_60 : decode cX10_spell 60 = .ok (.iload_n 1, 1) := by decide +kernel
theorem dX10_spell_61 : decode cX10_spell 61 = .ok (.bipush 6, 2) := by decide +kernel
theorem dX10_spell_63 : decode cX10_spell 63 = .ok (.iadd, 1) := by decide +kernel
theorem dX10_spell_64 : decode cX10_spell 64 = .ok (.iload 8, 2) := by decide +kernel
theorem dX10_spell_66 : decode cX10_spell 66 = .ok (.iastore, 1) := by decide +kernel
theorem dX10_spell_67 : decode cX10_spell 67 = .ok (.aload_n 0, 1) := by decide +kernel
theorem dX10_spell_68 : decode cX10_spell 68 = .ok (.getfield 13, 3) := by decide +kernel
theorem dX10_spell_71 : decode cX10_spell 71 = .ok (.iload_n 1, 1) := by decide +kernel
theorem dX10_spell_72 : decode cX10_spell 72 = .ok (.bipush 7, 2) := by decide +kernel
theorem dX10_spell_74 : decode cX10_spell 74 = .ok (.iadd, 1) := by decide +kernel
theorem dX10_spell_75 : decode cX10_spell 75 = .ok (.iload 9, 2) := by decide +kernel
theorem dX10_spell_77 : decode cX10_spell 77 = .ok (.iastore, 1) := by decide +kernel
theorem dX10_spell_78 : decode cX10_spell 78 = .ok (.return_, 1) := by decide +kernel
theorem dX10_isFlower_0 : decode cX10_isFlower 0 = .ok (.iload_n 1, 1) := by decide +kernel
theorem dX10_isFlower_1 : decode cX10_isFlower 1 = .ok (.i2l, 1) := by decide +kernel
theorem dX10_isFlower_2 : decode cX10_isFlower 2 = .ok (.lconst 0, 1) := by decide +kernel
theorem dX10_isFlower_3 : decode cX10_isFlower 3 = .ok (.aload_n 0, 1) := by decide +kernel
theorem dX10_isFlower_4 : decode cX10_isFlower 4 = .ok (.getfield 76, 3) := by decide +kernel
theorem dX10_isFlower_7 : decode cX10_isFlower 7 = .ok (.iconst 1, 1) := by decide +kernel
theorem dX10_isFlower_8 : decode cX10_isFlower 8 = .ok (.isub, 1) := by decide +kernel
theorem dX10_isFlower_9 : decode cX10_isFlower 9 = .ok (.i2l, 1) := by decide +kernel
theorem dX10_isFlower_10 : decode cX10_isFlower 10 = .ok (.invokestatic 79, 3) := by decide +kernel
theorem dX10_isFlower_13 : decode cX10_isFlower 13 = .ok (.ireturn, 1) := by decide +kernel
theorem dX10_mostOf_0 : decode cX10_mostOf 0 = .ok (.iload_n 0, 1) := by decide +kernel
theorem dX10_mostOf_1 : decode cX10_mostOf 1 = .ok (.ifCond .ne 9, 3) := by decide +kernel
theorem dX10_mostOf_4 : decode cX10_mostOf 4 = .ok (.sipush 400, 3) := by decide +kernel
theorem dX10_mostOf_7 : decode cX10_mostOf 7 = .ok (.goto 34, 3) := by decide +kernel
theorem dX10_mostOf_10 : decode cX10_mostOf 10 = .ok (.iload_n 0, 1) := by decide +kernel
theorem dX10_mostOf_11 : decode cX10_mostOf 11 = .ok (.iconst 1, 1) := by decide +kernel
theorem dX10_mostOf_12 : decode cX10_mostOf 12 = .ok (.if_icmp .ne 8, 3) := by decide +kernel
theorem dX10_mostOf_15 : decode cX10_mostOf 15 = .ok (.bipush 15, 2) := by decide +kernel
theorem dX10_mostOf_17 : decode cX10_mostOf 17 = .ok (.goto 24, 3) := by decide +kernel
theorem dX10_mostOf_20 : decode cX10_mostOf 20 = .ok (.iload_n 0, 1) := by decide +kernel
theorem dX10_mostOf_21 : decode cX10_mostOf 21 = .ok (.iconst 2, 1) := by decide +kernel
theorem dX10_mostOf_22 : decode cX10_mostOf 22 = .ok (.if_icmp .ne 8, 3) := by decide +kernel
theorem dX10_mostOf_25 : decode cX10_mostOf 25 = .ok (.bipush 9, 2) := by decide +kernel
theorem dX10_mostOf_27 : decode cX10_mostOf 27 = .ok (.goto 14, 3) := by decide +kernel
theorem dX10_mostOf_30 : decode cX10_mostOf 30 = .ok (.iload_n 0, 1) := by decide +kernel
theorem dX10_mostOf_31 : decode cX10_mostOf 31 = .ok (.iconst 3, 1) := by decide +kernel
theorem dX10_mostOf_32 : decode cX10_mostOf 32 = .ok (.if_icmp .ne 7, 3) := by decide +kernel
theorem dX10_mostOf_35 : decode cX10_mostOf 35 = .ok (.iconst 4, 1) := by decide +kernel
theorem dX10_mostOf_36 : decode cX10_mostOf 36 = .ok (.goto 5, 3) := by decide +kernel
theorem dX10_mostOf_39 : decode cX10_mostOf 39 = .ok (.bipush 40, 2) := by decide +kernel
theorem dX10_mostOf_41 : decode cX10_mostOf 41 = .ok (.ireturn, 1) := by decide +kernel
theorem dX10_set_0 : decode cX10_set 0 = .ok (.iload_n 1, 1) := by decide +kernel
theorem dX10_set_1 : decode cX10_set 1 = .ok (.i2l, 1) := by decide +kernel
theorem dX10_set_2 : decode cX10_set 2 = .ok (.lconst 0, 1) := by decide +kernel
theorem dX10_set_3 : decode cX10_set 3 = .ok (.ldc2_w 83, 3) := by decide +kernel
theorem dX10_set_6 : decode cX10_set 6 = .ok (.invokestatic 79, 3) := by decide +kernel
theorem dX10_set_9 : decode cX10_set 9 = .ok (.ifCond .eq 30, 3) := by decide +kernel
theorem dX10_set_12 : decode cX10_set 12 = .ok (.iload_n 1, 1) := by decide +kernel
theorem dX10_set_13 : decode cX10_set 13 = .ok (.iconst 1, 1) := by decide +kernel
theorem dX10_set_14 : decode cX10_set 14 = .ok (.if_icmp .le 11, 3) := by decide +kernel
theorem dX10_set_17 : decode cX10_set 17 = .ok (.aload_n 0, 1) := by decide +kernel
theorem dX10_set_18 : decode cX10_set 18 = .ok (.iload_n 2, 1) := by decide +kernel
theorem dX10_set_19 : decode cX10_set 19 = .ok (.invokevirtual 85, 3) := by decide +kernel
theorem dX10_set_22 : decode cX10_set 22 = .ok (.ifCond .eq 17, 3) := by decide +kernel
theorem dX10_set_25 : decode cX10_set 25 = .ok (.iload_n 3, 1) := by decide +kernel
theorem dX10_set_26 : decode cX10_set 26 = .ok (.i2l, 1) := by decide +kernel
theorem dX10_set_27 : decode cX10_set 27 = .ok (.lconst 0, 1) := by decide +kernel
theorem dX10_set_28 : decode cX10_set 28 = .ok (.iload_n 1, 1) := by decide +kernel
theorem dX10_set_29 : decode cX10_set 29 = .ok (.invokestatic 89, 3) := by decide +kernel
theorem dX10_set_32 : decode cX10_set 32 = .ok (.i2l, 1) := by decide +kernel
theorem dX10_set_33 : decode cX10_set 33 = .ok (.invokestatic 79, 3) := by decide +kernel
theorem dX10_set_36 : decode cX10_set 36 = .ok (.ifCond .ne 6, 3) := by decide +kernel
theorem dX10_set_39 : decode cX10_set 39 = .ok (.bipush (-2), 2) := by decide +kernel
theorem dX10_set_41 : decode cX10_set 41 = .ok (.ireturn, 1) := by decide +kernel
theorem dX10_set_42 : decode cX10_set 42 = .ok (.aload_n 0, 1) := by decide +kernel
theorem dX10_set_43 : decode cX10_set 43 = .ok (.iload_n 2, 1) := by decide +kernel
theorem dX10_set_44 : decode cX10_set 44 = .ok (.iload_n 1, 1) := by decide +kernel
theorem dX10_set_45 : decode cX10_set 45 = .ok (.invokevirtual 93, 3) := by decide +kernel
theorem dX10_set_48 : decode cX10_set 48 = .ok (.istore 4, 2) := by decide +kernel
theorem dX10_set_50 : decode cX10_set 50 = .ok (.aload_n 0, 1) := by decide +kernel
theorem dX10_set_51 : decode cX10_set 51 = .ok (.iload_n 1, 1) := by decide +kernel
theorem dX10_set_52 : decode cX10_set 52 = .ok (.iload_n 2, 1) := by decide +kernel
theorem dX10_set_53 : decode cX10_set 53 = .ok (.iload_n 3, 1) := by decide +kernel
theorem dX10_set_54 : decode cX10_set 54 = .ok (.invokevirtual 97, 3) := by decide +kernel
theorem dX10_set_57 : decode cX10_set 57 = .ok (.iload 4, 2) := by decide +kernel
theorem dX10_set_59 : decode cX10_set 59 = .ok (.ireturn, 1) := by decide +kernel
theorem dX10_lays_0 : decode cX10_lays 0 = .ok (.iload_n 1, 1) := by decide +kernel
theorem dX10_lays_1 : decode cX10_lays 1 = .ok (.ifCond .ne 11, 3) := by decide +kernel
theorem dX10_lays_4 : decode cX10_lays 4 = .ok (.aload_n 0, 1) := by decide +kernel
theorem dX10_lays_5 : decode cX10_lays 5 = .ok (.iload_n 3, 1) := by decide +kernel
theorem dX10_lays_6 : decode cX10_lays 6 = .ok (.putfield 23, 3) := by decide +kernel
theorem dX10_lays_9 : decode cX10_lays 9 = .ok (.goto 57, 3) := by decide +kernel
theorem dX10_lays_12 : decode cX10_lays 12 = .ok (.iload_n 1, 1) := by decide +kernel
theorem dX10_lays_13 : decode cX10_lays 13 = .ok (.iconst 1, 1) := by decide +kernel
theorem dX10_lays_14 : decode cX10_lays 14 = .ok (.if_icmp .ne 11, 3) := by decide +kernel
theorem dX10_lays_17 : decode cX10_lays 17 = .ok (.aload_n 0, 1) := by decide +kernel
theorem dX10_lays_18 : decode cX10_lays 18 = .ok (.iload_n 3, 1) := by decide +kernel
theorem dX10_lays_19 : decode cX10_lays 19 = .ok (.putfield 101, 3) := by decide +kernel
theorem dX10_lays_22 : decode cX10_lays 22 = .ok (.goto 44, 3) := by decide +kernel
theorem dX10_lays_25 : decode cX10_lays 25 = .ok (.iload_n 1, 1) := by decide +kernel
theorem dX10_lays_26 : decode cX10_lays 26 = .ok (.iconst 5, 1) := by decide +kernel
theorem dX10_lays_27 : decode cX10_lays 27 = .ok (.if_icmp .ge 19, 3) := by decide +kernel
theorem dX10_lays_30 : decode cX10_lays 30 = .ok (.aload_n 0, 1) := by decide +kernel
theorem dX10_lays_31 : decode cX10_lays 31 = .ok (.getfield 29, 3) := by decide +kernel
theorem dX10_lays_34 : decode cX10_lays 34 = .ok (.iconst 3, 1) := by decide +kernel
theorem dX10_lays_35 : decode cX10_lays 35 = .ok (.iload_n 2, 1) := by decide +kernel
theorem dX10_lays_36 : decode cX10_lays 36 = .ok (.imul, 1) := by decide +kernel
theorem dX10_lays_37 : decode cX10_lays 37 = .ok (.iload_n 1, 1) := by decide +kernel
theorem dX10_lays_38 : decode cX10_lays 38 = .ok (.iadd, 1) := by decide +kernel
theorem dX10_lays_39 : decode cX10_lays 39 = .ok (.iconst 2, 1) := by decide +kernel
theorem dX10_lays_40 : decode cX10_lays 40 = .ok (.isub, 1) := by decide +kernel
theorem dX10_lays_41 : decode cX10_lays 41 = .ok (.iload_n 3, 1) := by decide +kernel
theorem dX10_lays_42 : decode cX10_lays 42 = .ok (.iastore, 1) := by decide +kernel
theorem dX10_lays_43 : decode cX10_lays 43 = .ok (.goto 23, 3) := by decide +kernel
theorem dX10_lays_46 : decode cX10_lays 46 = .ok (.iload_n 1, 1) := by decide +kernel
theorem dX10_lays_47 : decode cX10_lays 47 = .ok (.iconst 5, 1) := by decide +kernel
theorem dX10_lays_48 : decode cX10_lays 48 = .ok (.if_icmp .ne 13, 3) := by decide +kernel
theorem dX10_lays_51 : decode cX10_lays 51 = .ok (.aload_n 0, 1) := by decide +kernel
theorem dX10_lays_52 : decode cX10_lays 52 = .ok (.getfield 26, 3) := by decide +kernel
theorem dX10_lays_55 : decode cX10_lays 55 = .ok (.iload_n 2, 1) := by decide +kernel
theorem dX10_lays_56 : decode cX10_lays 56 = .ok (.iload_n 3, 1) := by decide +kernel
theorem dX10_lays_57 : decode cX10_lays 57 = .ok (.iastore, 1) := by decide +kernel
theorem dX10_lays_58 : decode cX10_lays 58 = .ok (.goto 8, 3) := by decide +kernel
theorem dX10_lays_61 : decode cX10_lays 61 = .ok (.aload_n 0, 1) := by decide +kernel
theorem dX10_lays_62 : decode cX10_lays 62 = .ok (.iload_n 3, 1) := by decide +kernel
theorem dX10_lays_63 : decode cX10_lays 63 = .ok (.putfield 104, 3) := by decide +kernel
theorem dX10_lays_66 : decode cX10_lays 66 = .ok (.return_, 1) := by decide +kernel
theorem dX10_flower_0 : decode cX10_flower 0 = .ok (.iload_n 1, 1) := by decide +kernel
theorem dX10_flower_1 : decode cX10_flower 1 = .ok (.i2l, 1) := by decide +kernel
theorem dX10_flower_2 : decode cX10_flower 2 = .ok (.lconst 0, 1) := by decide +kernel
theorem dX10_flower_3 : decode cX10_flower 3 = .ok (.ldc2_w 107, 3) := by decide +kernel
theorem dX10_flower_6 : decode cX10_flower 6 = .ok (.invokestatic 79, 3) := by decide +kernel
theorem dX10_flower_9 : decode cX10_flower 9 = .ok (.ifCond .eq 15, 3) := by decide +kernel
theorem dX10_flower_12 : decode cX10_flower 12 = .ok (.iload_n 2, 1) := by decide +kernel
theorem dX10_flower_13 : decode cX10_flower 13 = .ok (.i2l, 1) := by decide +kernel
theorem dX10_flower_14 : decode cX10_flower 14 = .ok (.lconst 0, 1) := by decide +kernel
theorem dX10_flower_15 : decode cX10_flower 15 = .ok (.ldc2_w 109, 3) := by decide +kernel
theorem dX10_flower_18 : decode cX10_flower 18 = .ok (.invokestatic 79, 3) := by decide +kernel
theorem dX10_flower_21 : decode cX10_flower 21 = .ok (.ifCond .ne 6, 3) := by decide +kernel
theorem dX10_flower_24 : decode cX10_flower 24 = .ok (.bipush (-2), 2) := by decide +kernel
theorem dX10_flower_26 : decode cX10_flower 26 = .ok (.ireturn, 1) := by decide +kernel
theorem dX10_flower_27 : decode cX10_flower 27 = .ok (.aload_n 0, 1) := by decide +kernel
theorem dX10_flower_28 : decode cX10_flower 28 = .ok (.getfield 76, 3) := by decide +kernel
theorem dX10_flower_31 : decode cX10_flower 31 = .ok (.bipush 6, 2) := by decide +kernel
theorem dX10_flower_33 : decode cX10_flower 33 = .ok (.if_icmp .ne 6, 3) := by decide +kernel
theorem dX10_flower_36 : decode cX10_flower 36 = .ok (.bipush (-4), 2) := by decide +kernel
theorem dX10_flower_38 : decode cX10_flower 38 = .ok (.ireturn, 1) := by decide +kernel
theorem dX10_flower_39 : decode cX10_flower 39 = .ok (.aload_n 0, 1) := by decide +kernel
theorem dX10_flower_40 : decode cX10_flower 40 = .ok (.getfield 26, 3) := by decide +kernel
theorem dX10_flower_43 : decode cX10_flower 43 = .ok (.aload_n 0, 1) := by decide +kernel
theorem dX10_flower_44 : decode cX10_flower 44 = .ok (.getfield 76, 3) := by decide +kernel
theorem dX10_flower_47 : decode cX10_flower 47 = .ok (.iload_n 1, 1) := by decide +kernel
theorem dX10_flower_48 : decode cX10_flower 48 = .ok (.iastore, 1) := by decide +kernel
theorem dX10_flower_49 : decode cX10_flower 49 = .ok (.aload_n 0, 1) := by decide +kernel
theorem dX10_flower_50 : decode cX10_flower 50 = .ok (.getfield 29, 3) := by decide +kernel
theorem dX10_flower_53 : decode cX10_flower 53 = .ok (.iconst 3, 1) := by decide +kernel
theorem dX10_flower_54 : decode cX10_flower 54 = .ok (.aload_n 0, 1) := by decide +kernel
theorem dX10_flower_55 : decode cX10_flower 55 = .ok (.getfield 76, 3) := by decide +kernel
theorem dX10_flower_58 : decode cX10_flower 58 = .ok (.imul, 1) := by decide +kernel
theorem dX10_flower_59 : decode cX10_flower 59 = .ok (.iload_n 2, 1) := by decide +kernel
theorem dX10_flower_60 : decode cX10_flower 60 = .ok (.iastore, 1) := by decide +kernel
theorem dX10_flower_61 : decode cX10_flower 61 = .ok (.aload_n 0, 1) := by decide +kernel
theorem dX10_flower_62 : decode cX10_flower 62 = .ok (.getfield 29, 3) := by decide +kernel
theorem dX10_flower_65 : decode cX10_flower 65 = .ok (.iconst 3, 1) := by decide +kernel
theorem dX10_flower_66 : decode cX10_flower 66 = .ok (.aload_n 0, 1) := by decide +kernel
theorem dX10_flower_67 : decode cX10_flower 67 = .ok (.getfield 76, 3) := by decide +kernel
theorem dX10_flower_70 : decode cX10_flower 70 = .ok (.imul, 1) := by decide +kernel
theorem dX10_flower_71 : decode cX10_flower 71 = .ok (.iconst 1, 1) := by decide +kernel
theorem dX10_flower_72 : decode cX10_flower 72 = .ok (.iadd, 1) := by decide +kernel
theorem dX10_flower_73 : decode cX10_flower 73 = .ok (.iconst 0, 1) := by decide +kernel
theorem dX10_flower_74 : decode cX10_flower 74 = .ok (.iastore, 1) := by decide +kernel
theorem dX10_flower_75 : decode cX10_flower 75 = .ok (.aload_n 0, 1) := by decide +kernel
theorem dX10_flower_76 : decode cX10_flower 76 = .ok (.getfield 29, 3) := by decide +kernel
theorem dX10_flower_79 : decode cX10_flower 79 = .ok (.iconst 3, 1) := by decide +kernel
theorem dX10_flower_80 : decode cX10_flower 80 = .ok (.aload_n 0, 1) := by decide +kernel
theorem dX10_flower_81 : decode cX10_flower 81 = .ok (.getfield 76, 3) := by decide +kernel
theorem dX10_flower_84 : decode cX10_flower 84 = .ok (.imul, 1) := by decide +kernel
theorem dX10_flower_85 : decode cX10_flower 85 = .ok (.iconst 2, 1) := by decide +kernel
theorem dX10_flower_86 : decode cX10_flower 86 = .ok (.iadd, 1) := by decide +kernel
theorem dX10_flower_87 : decode cX10_flower 87 = .ok (.bipush 10, 2) := by decide +kernel
theorem dX10_flower_89 : decode cX10_flower 89 = .ok (.iastore, 1) := by decide +kernel
theorem dX10_flower_90 : decode cX10_flower 90 = .ok (.aload_n 0, 1) := by decide +kernel
theorem dX10_flower_91 : decode cX10_flower 91 = .ok (.dup, 1) := by decide +kernel
theorem dX10_flower_92 : decode cX10_flower 92 = .ok (.getfield 76, 3) := by decide +kernel
theorem dX10_flower_95 : decode cX10_flower 95 = .ok (.iconst 1, 1) := by decide +kernel
theorem dX10_flower_96 : decode cX10_flower 96 = .ok (.iadd, 1) := by decide +kernel
theorem dX10_flower_97 : decode cX10_flower 97 = .ok (.putfield 76, 3) := by decide +kernel
theorem dX10_flower_100 : decode cX10_flower 100 = .ok (.aload_n 0, 1) := by decide +kernel
theorem dX10_flower_101 : decode cX10_flower 101 = .ok (.getfield 76, 3) := by decide +kernel
theorem dX10_flower_104 : decode cX10_flower 104 = .ok (.iconst 1, 1) := by decide +kernel
theorem dX10_flower_105 : decode cX10_flower 105 = .ok (.isub, 1) := by decide +kernel
theorem dX10_flower_106 : decode cX10_flower 106 = .ok (.ireturn, 1) := by decide +kernel
theorem dX10_told_0 : decode cX10_told 0 = .ok (.iload_n 2, 1) := by decide +kernel
theorem dX10_told_1 : decode cX10_told 1 = .ok (.i2l, 1) := by decide +kernel
theorem dX10_told_2 : decode cX10_told 2 = .ok (.lconst 0, 1) := by decide +kernel
theorem dX10_told_3 : decode cX10_told 3 = .ok (.ldc2_w 109, 3) := by decide +kernel
theorem dX10_told_6 : decode cX10_told 6 = .ok (.invokestatic 79, 3) := by decide +kernel
theorem dX10_told_9 : decode cX10_told 9 = .ok (.ifCond .eq 16, 3) := by decide +kernel
theorem dX10_told_12 : decode cX10_told 12 = .ok (.iload_n 2, 1) := by decide +kernel
theorem dX10_told_13 : decode cX10_told 13 = .ok (.iconst 1, 1) := by decide +kernel
theorem dX10_told_14 : decode cX10_told 14 = .ok (.if_icmp .le 14, 3) := by decide +kernel
theorem dX10_told_17 : decode cX10_told 17 = .ok (.aload_n 0, 1) := by decide +kernel
theorem dX10_told_18 : decode cX10_told 18 = .ok (.iload_n 1, 1) := by decide +kernel
theorem dX10_told_19 : decode cX10_told 19 = .ok (.invokevirtual 85, 3) := by decide +kernel
theorem dX10_told_22 : decode cX10_told 22 = .ok (.ifCond .ne 6, 3) := by decide +kernel
theorem dX10_told_25 : decode cX10_told 25 = .ok (.bipush (-2), 2) := by decide +kernel
theorem dX10_told_27 : decode cX10_told 27 = .ok (.ireturn, 1) := by decide +kernel
theorem dX10_told_28 : decode cX10_told 28 = .ok (.iload_n 2, 1) := by decide +kernel
theorem dX10_told_29 : decode cX10_told 29 = .ok (.iconst 5, 1) := by decide +kernel
theorem dX10_told_30 : decode cX10_told 30 = .ok (.if_icmp .ge 39, 3) := by decide +kernel
theorem dX10_told_33 : decode cX10_told 33 = .ok (.iload_n 2, 1) := by decide +kernel
theorem dX10_told_34 : decode cX10_told 34 = .ok (.ifCond .ne 10, 3) := by decide +kernel
theorem dX10_told_37 : decode cX10_told 37 = .ok (.aload_n 0, 1) := by decide +kernel
theorem dX10_told_38 : decode cX10_told 38 = .ok (.getfield 23, 3) := by decide +kernel
theorem dX10_told_41 : decode cX10_told 41 = .ok (.goto 27, 3) := by decide +kernel
theorem dX10_told_44 : decode cX10_told 44 = .ok (.iload_n 2, 1) := by decide +kernel
theorem dX10_told_45 : decode cX10_told 45 = .ok (.iconst 1, 1) := by decide +kernel
theorem dX10_told_46 : decode cX10_told 46 = .ok (.if_icmp .ne 10, 3) := by decide +kernel
theorem dX10_told_49 : decode cX10_told 49 = .ok (.aload_n 0, 1) := by decide +kernel
theorem dX10_told_50 : decode cX10_told 50 = .ok (.getfield 101, 3) := by decide +kernel
theorem dX10_told_53 : decode cX10_told 53 = .ok (.goto 15, 3) := by decide +kernel
theorem dX10_told_56 : decode cX10_told 56 = .ok (.aload_n 0, 1) := by decide +kernel
theorem dX10_told_57 : decode cX10_told 57 = .ok (.getfield 29, 3) := by decide +kernel
theorem dX10_told_60 : decode cX10_told 60 = .ok (.iconst 3, 1) := by decide +kernel
theorem dX10_told_61 : decode cX10_told 61 = .ok (.iload_n 1, 1) := by decide +kernel
theorem dX10_told_62 : decode cX10_told 62 = .ok (.imul, 1) := by decide +kernel
theorem dX10_told_63 : decode cX10_told 63 = .ok (.iload_n 2, 1) := by decide +kernel
theorem dX10_told_64 : decode cX10_told 64 = .ok (.iadd, 1) := by decide +kernel
theorem dX10_told_65 : decode cX10_told 65 = .ok (.iconst 2, 1) := by decide +kernel
theorem dX10_told_66 : decode cX10_told 66 = .ok (.isub, 1) := by decide +kernel
theorem dX10_told_67 : decode cX10_told 67 = .ok (.iaload, 1) := by decide +kernel
theorem dX10_told_68 : decode cX10_told 68 = .ok (.ireturn, 1) := by decide +kernel
theorem dX10_told_69 : decode cX10_told 69 = .ok (.iload_n 2, 1) := by decide +kernel
theorem dX10_told_70 : decode cX10_told 70 = .ok (.bipush 7, 2) := by decide +kernel
theorem dX10_told_72 : decode cX10_told 72 = .ok (.if_icmp .ge 23, 3) := by decide +kernel
theorem dX10_told_75 : decode cX10_told 75 = .ok (.iload_n 2, 1) := by decide +kernel
theorem dX10_told_76 : decode cX10_told 76 = .ok (.iconst 5, 1) := by decide +kernel
theorem dX10_told_77 : decode cX10_told 77 = .ok (.if_icmp .ne 12, 3) := by decide +kernel
theorem dX10_told_80 : decode cX10_told 80 = .ok (.aload_n 0, 1) := by decide +kernel
theorem dX10_told_81 : decode cX10_told 81 = .ok (.getfield 26, 3) := by decide +kernel
theorem dX10_told_84 : decode cX10_told 84 = .ok (.iload_n 1, 1) := by decide +kernel
theorem dX10_told_85 : decode cX10_told 85 = .ok (.iaload, 1) := by decide +kernel
theorem dX10_told_86 : decode cX10_told 86 = .ok (.goto 8, 3) := by decide +kernel
theorem dX10_told_89 : decode cX10_told 89 = .ok (.aload_n 0, 1) := by decide +kernel
theorem dX10_told_90 : decode cX10_told 90 = .ok (.iload_n 1, 1) := by decide +kernel
theorem dX10_told_91 : decode cX10_told 91 = .ok (.invokevirtual 111, 3) := by decide +kernel
theorem dX10_told_94 : decode cX10_told 94 = .ok (.ireturn, 1) := by decide +kernel
theorem dX10_told_95 : decode cX10_told 95 = .ok (.aload_n 0, 1) := by decide +kernel
theorem dX10_told_96 : decode cX10_told 96 = .ok (.iload_n 1, 1) := by decide +kernel
theorem dX10_told_97 : decode cX10_told 97 = .ok (.invokevirtual 114, 3) := by decide +kernel
theorem dX10_told_100 : decode cX10_told 100 = .ok (.iload_n 2, 1) := by decide +kernel
theorem dX10_told_101 : decode cX10_told 101 = .ok (.bipush 7, 2) := by decide +kernel
theorem dX10_told_103 : decode cX10_told 103 = .ok (.if_icmp .ne 11, 3) := by decide +kernel
theorem dX10_told_106 : decode cX10_told 106 = .ok (.aload_n 0, 1) := by decide +kernel
theorem dX10_told_107 : decode cX10_told 107 = .ok (.iload_n 1, 1) := by decide +kernel
theorem dX10_told_108 : decode cX10_told 108 = .ok (.invokevirtual 118, 3) := by decide +kernel
theorem dX10_told_111 : decode cX10_told 111 = .ok (.goto 22, 3) := by decide +kernel
theorem dX10_told_114 : decode cX10_told 114 = .ok (.iload_n 2, 1) := by decide +kernel
theorem dX10_told_115 : decode cX10_told 115 = .ok (.bipush 8, 2) := by decide +kernel
theorem dX10_told_117 : decode cX10_told 117 = .ok (.if_icmp .ne 11, 3) := by decide +kernel
theorem dX10_told_120 : decode cX10_told 120 = .ok (.aload_n 0, 1) := by decide +kernel
theorem dX10_told_121 : decode cX10_told 121 = .ok (.iload_n 1, 1) := by decide +kernel
theorem dX10_told_122 : decode cX10_told 122 = .ok (.invokevirtual 121, 3) := by decide +kernel
theorem dX10_told_125 : decode cX10_told 125 = .ok (.goto 8, 3) := by decide +kernel
theorem dX10_told_128 : decode cX10_told 128 = .ok (.aload_n 0, 1) := by decide +kernel
theorem dX10_told_129 : decode cX10_told 129 = .ok (.iload_n 1, 1) := by decide +kernel
theorem dX10_told_130 : decode cX10_told 130 = .ok (.invokevirtual 124, 3) := by decide +kernel
theorem dX10_told_133 : decode cX10_told 133 = .ok (.ireturn, 1) := by decide +kernel
theorem dX10_thickOf_0 : decode cX10_thickOf 0 = .ok (.aload_n 0, 1) := by decide +kernel
theorem dX10_thickOf_1 : decode cX10_thickOf 1 = .ok (.getfield 26, 3) := by decide +kernel
theorem dX10_thickOf_4 : decode cX10_thickOf 4 = .ok (.iload_n 1, 1) := by decide +kernel
theorem dX10_thickOf_5 : decode cX10_thickOf 5 = .ok (.iaload, 1) := by decide +kernel
theorem dX10_thickOf_6 : decode cX10_thickOf 6 = .ok (.istore_n 2, 1) := by decide +kernel
theorem dX10_thickOf_7 : decode cX10_thickOf 7 = .ok (.aload_n 0, 1) := by decide +kernel
theorem dX10_thickOf_8 : decode cX10_thickOf 8 = .ok (.getfield 29, 3) := by decide +kernel
theorem dX10_thickOf_11 : decode cX10_thickOf 11 = .ok (.iconst 3, 1) := by decide +kernel
theorem dX10_thickOf_12 : decode cX10_thickOf 12 = .ok (.iload_n 1, 1) := by decide +kernel
theorem dX10_thickOf_13 : decode cX10_thickOf 13 = .ok (.imul, 1) := by decide +kernel
theorem dX10_thickOf_14 : decode cX10_thickOf 14 = .ok (.iaload, 1) := by decide +kernel
theorem dX10_thickOf_15 : decode cX10_thickOf 15 = .ok (.istore_n 3, 1) := by decide +kernel
theorem dX10_thickOf_16 : decode cX10_thickOf 16 = .ok (.iload_n 2, 1) := by decide +kernel
theorem dX10_thickOf_17 : decode cX10_thickOf 17 = .ok (.iconst 1, 1) := by decide +kernel
theorem dX10_thickOf_18 : decode cX10_thickOf 18 = .ok (.if_icmp .ne 9, 3) := by decide +kernel
theorem dX10_thickOf_21 : decode cX10_thickOf 21 = .ok (.iconst 3, 1) := by decide +kernel
theorem dX10_thickOf_22 : decode cX10_thickOf 22 = .ok (.iload_n 3, 1) := by decide +kernel
theorem dX10_thickOf_23 : decode cX10_thickOf 23 = .ok (.iadd, 1) := by decide +kernel
theorem dX10_thickOf_24 : decode cX10_thickOf 24 = .ok (.goto 44, 3) := by decide +kernel
theorem dX10_thickOf_27 : decode cX10_thickOf 27 = .ok (.iload_n 2, 1) := by decide +kernel
theorem dX10_thickOf_28 : decode cX10_thickOf 28 = .ok (.iconst 2, 1) := by decide +kernel
theorem dX10_thickOf_29 : decode cX10_thickOf 29 = .ok (.if_icmp .eq 8, 3) := by decide +kernel
theorem dX10_thickOf_32 : decode cX10_thickOf 32 = .ok (.iload_n 2, 1) := by decide +kernel
theorem dX10_thickOf_33 : decode cX10_thickOf 33 = .ok (.iconst 4, 1) := by decide +kernel
theorem dX10_thickOf_34 : decode cX10_thickOf 34 = .ok (.if_icmp .ne 7, 3) := by decide +kernel
theorem dX10_thickOf_37 : decode cX10_thickOf 37 = .ok (.iconst 1, 1) := by decide +kernel
theorem dX10_thickOf_38 : decode cX10_thickOf 38 = .ok (.goto 30, 3) := by decide +kernel
theorem dX10_thickOf_41 : decode cX10_thickOf 41 = .ok (.iload_n 2, 1) := by decide +kernel
theorem dX10_thickOf_42 : decode cX10_thickOf 42 = .ok (.iconst 3, 1) := by decide +kernel
theorem dX10_thickOf_43 : decode cX10_thickOf 43 = .ok (.if_icmp .ne 11, 3) := by decide +kernel
theorem dX10_thickOf_46 : decode cX10_thickOf 46 = .ok (.iconst 3, 1) := by decide +kernel
theorem dX10_thickOf_47 : decode cX10_thickOf 47 = .ok (.iload_n 3, 1) := by decide +kernel
theorem dX10_thickOf_48 : decode cX10_thickOf 48 = .ok (.iadd, 1) := by decide +kernel
theorem dX10_thickOf_49 : decode cX10_thickOf 49 = .ok (.iconst 2, 1) := by decide +kernel
theorem dX10_thickOf_50 : decode cX10_thickOf 50 = .ok (.idiv, 1) := by decide +kernel
theorem dX10_thickOf_51 : decode cX10_thickOf 51 = .ok (.goto 17, 3) := by decide +kernel
theorem dX10_thickOf_54 : decode cX10_thickOf 54 = .ok (.iload_n 2, 1) := by decide +kernel
theorem dX10_thickOf_55 : decode cX10_thickOf 55 = .ok (.iconst 5, 1) := by decide +kernel
theorem dX10_thickOf_56 : decode cX10_thickOf 56 = .ok (.if_icmp .ne 11, 3) := by decide +kernel
theorem dX10_thickOf_59 : decode cX10_thickOf 59 = .ok (.iconst 2, 1) := by decide +kernel
theorem dX10_thickOf_60 : decode cX10_thickOf 60 = .ok (.iload_n 3, 1) := by decide +kernel
theorem dX10_thickOf_61 : decode cX10_thickOf 61 = .ok (.iconst 2, 1) := by decide +kernel
theorem dX10_thickOf_62 : decode cX10_thickOf 62 = .ok (.idiv, 1) := by decide +kernel
theorem dX10_thickOf_63 : decode cX10_thickOf 63 = .ok (.iadd, 1) := by decide +kernel
theorem dX10_thickOf_64 : decode cX10_thickOf 64 = .ok (.goto 4, 3) := by decide +kernel
theorem dX10_thickOf_67 : decode cX10_thickOf 67 = .ok (.iconst 3, 1) := by decide +kernel
theorem dX10_thickOf_68 : decode cX10_thickOf 68 = .ok (.ireturn, 1) := by decide +kernel
theorem dX10_feed_0 : decode cX10_feed 0 = .ok (.iload_n 1, 1) := by decide +kernel
theorem dX10_feed_1 : decode cX10_feed 1 = .ok (.i2l, 1) := by decide +kernel
theorem dX10_feed_2 : decode cX10_feed 2 = .ok (.lconst 0, 1) := by decide +kernel
theorem dX10_feed_3 : decode cX10_feed 3 = .ok (.ldc2_w 127, 3) := by decide +kernel
theorem dX10_feed_6 : decode cX10_feed 6 = .ok (.invokestatic 79, 3) := by decide +kernel
theorem dX10_feed_9 : decode cX10_feed 9 = .ok (.ifCond .ne 6, 3) := by decide +kernel
theorem dX10_feed_12 : decode cX10_feed 12 = .ok (.bipush (-2), 2) := by decide +kernel
theorem dX10_feed_14 : decode cX10_feed 14 = .ok (.ireturn, 1) := by decide +kernel
theorem dX10_feed_15 : decode cX10_feed 15 = .ok (.aload_n 0, 1) := by decide +kernel
theorem dX10_feed_16 : decode cX10_feed 16 = .ok (.getfield 129, 3) := by decide +kernel
theorem dX10_feed_19 : decode cX10_feed 19 = .ok (.sipush 160, 3) := by decide +kernel
theorem dX10_feed_22 : decode cX10_feed 22 = .ok (.if_icmp .ne 6, 3) := by decide +kernel
theorem dX10_feed_25 : decode cX10_feed 25 = .ok (.bipush (-4), 2) := by decide +kernel
theorem dX10_feed_27 : decode cX10_feed 27 = .ok (.ireturn, 1) := by decide +kernel
theorem dX10_feed_28 : decode cX10_feed 28 = .ok (.aload_n 0, 1) := by decide +kernel
theorem dX10_feed_29 : decode cX10_feed 29 = .ok (.getfield 20, 3) := by decide +kernel
theorem dX10_feed_32 : decode cX10_feed 32 = .ok (.aload_n 0, 1) := by decide +kernel
theorem dX10_feed_33 : decode cX10_feed 33 = .ok (.getfield 129, 3) := by decide +kernel
theorem dX10_feed_36 : decode cX10_feed 36 = .ok (.iload_n 1, 1) := by decide +kernel
theorem dX10_feed_37 : decode cX10_feed 37 = .ok (.iastore, 1) := by decide +kernel
theorem dX10_feed_38 : decode cX10_feed 38 = .ok (.aload_n 0, 1) := by decide +kernel
theorem dX10_feed_39 : decode cX10_feed 39 = .ok (.dup, 1) := by decide +kernel
theorem dX10_feed_40 : decode cX10_feed 40 = .ok (.getfield 129, 3) := by decide +kernel
theorem dX10_feed_43 : decode cX10_feed 43 = .ok (.iconst 1, 1) := by decide +kernel
theorem dX10_feed_44 : decode cX10_feed 44 = .ok (.iadd, 1) := by decide +kernel
theorem dX10_feed_45 : decode cX10_feed 45 = .ok (.putfield 129, 3) := by decide +kernel
theorem dX10_feed_48 : decode cX10_feed 48 = .ok (.aload_n 0, 1) := by decide +kernel
theorem dX10_feed_49 : decode cX10_feed 49 = .ok (.getfield 129, 3) := by decide +kernel
theorem dX10_feed_52 : decode cX10_feed 52 = .ok (.ireturn, 1) := by decide +kernel
theorem dX10_byteAt_0 : decode cX10_byteAt 0 = .ok (.iload_n 1, 1) := by decide +kernel
theorem dX10_byteAt_1 : decode cX10_byteAt 1 = .ok (.aload_n 0, 1) := by decide +kernel
theorem dX10_byteAt_2 : decode cX10_byteAt 2 = .ok (.getfield 132, 3) := by decide +kernel
theorem dX10_byteAt_5 : decode cX10_byteAt 5 = .ok (.if_icmp .ge 17, 3) := by decide +kernel
theorem dX10_byteAt_8 : decode cX10_byteAt 8 = .ok (.aload_n 0, 1) := by decide +kernel
theorem dX10_byteAt_9 : decode cX10_byteAt 9 = .ok (.getfield 13, 3) := by decide +kernel
theorem dX10_byteAt_12 : decode cX10_byteAt 12 = .ok (.aload_n 0, 1) := by decide +kernel
theorem dX10_byteAt_13 : decode cX10_byteAt 13 = .ok (.getfield 135, 3) := by decide +kernel
theorem dX10_byteAt_16 : decode cX10_byteAt 16 = .ok (.iload_n 1, 1) := by decide +kernel
theorem dX10_byteAt_17 : decode cX10_byteAt 17 = .ok (.iadd, 1) := by decide +kernel
theorem dX10_byteAt_18 : decode cX10_byteAt 18 = .ok (.iaload, 1) := by decide +kernel
theorem dX10_byteAt_19 : decode cX10_byteAt 19 = .ok (.goto 4, 3) := by decide +kernel
theorem dX10_byteAt_22 : decode cX10_byteAt 22 = .ok (.iconst (-1), 1) := by decide +kernel
theorem dX10_byteAt_23 : decode cX10_byteAt 23 = .ok (.ireturn, 1) := by decide +kernel
theorem dX10_nextToken_0 : decode cX10_nextToken 0 = .ok (.aload_n 0, 1) := by decide +kernel
theorem dX10_nextToken_1 : decode cX10_nextToken 1 = .ok (.aload_n 0, 1) := by decide +kernel
theorem dX10_nextToken_2 : decode cX10_nextToken 2 = .ok (.getfield 138, 3) := by decide +kernel
theorem dX10_nextToken_5 : decode cX10_nextToken 5 = .ok (.invokevirtual 141, 3) := by decide +kernel
theorem dX10_nextToken_8 : decode cX10_nextToken 8 = .ok (.bipush 32, 2) := by decide +kernel
theorem dX10_nextToken_10 : decode cX10_nextToken 10 = .ok (.if_icmp .eq 16, 3) := by decide +kernel
theorem dX10_nextToken_13 : decode cX10_nextToken 13 = .ok (.aload_n 0, 1) := by decide +kernel
theorem dX10_nextToken_14 : decode cX10_nextToken 14 = .ok (.aload_n 0, 1) := by decide +kernel
theorem dX10_nextToken_15 : decode cX10_nextToken 15 = .ok (.getfield 138, 3) := by decide +kernel
theorem dX10_nextToken_18 : decode cX10_nextToken 18 = .ok (.invokevirtual 141, 3) := by decide +kernel
theorem dX10_nextToken_21 : decode cX10_nextToken 21 = .ok (.bipush 10, 2) := by decide +kernel
theorem dX10_nextToken_23 : decode cX10_nextToken 23 = .ok (.if_icmp .ne 16, 3) := by decide +kernel
theorem dX10_nextToken_26 : decode cX10_nextToken 26 = .ok (.aload_n 0, 1) := by decide +kernel
theorem dX10_nextToken_27 : decode cX10_nextToken 27 = .ok (.dup, 1) := by decide +kernel
theorem dX10_nextToken_28 : decode cX10_nextToken 28 = .ok (.getfield 138, 3) := by decide +kernel
theorem dX10_nextToken_31 : decode cX10_nextToken 31 = .ok (.iconst 1, 1) := by decide +kernel
theorem dX10_nextToken_32 : decode cX10_nextToken 32 = .ok (.iadd, 1) := by decide +kernel
theorem dX10_nextToken_33 : decode cX10_nextToken 33 = .ok (.putfield 138, 3) := by decide +kernel
theorem dX10_nextToken_36 : decode cX10_nextToken 36 = .ok (.goto (-36), 3) := by decide +kernel
theorem dX10_nextToken_39 : decode cX10_nextToken 39 = .ok (.aload_n 0, 1) := by decide +kernel
theorem dX10_nextToken_40 : decode cX10_nextToken 40 = .ok (.aload_n 0, 1) := by decide +kernel
theorem dX10_nextToken_41 : decode cX10_nextToken 41 = .ok (.getfield 138, 3) := by decide +kernel
theorem dX10_nextToken_44 : decode cX10_nextToken 44 = .ok (.putfield 144, 3) := by decide +kernel
theorem dX10_nextToken_47 : decode cX10_nextToken 47 = .ok (.aload_n 0, 1) := by decide +kernel
theorem dX10_nextToken_48 : decode cX10_nextToken 48 = .ok (.aload_n 0, 1) := by decide +kernel
theorem dX10_nextToken_49 : decode cX10_nextToken 49 = .ok (.getfield 138, 3) := by decide +kernel
theorem dX10_nextToken_52 : decode cX10_nextToken 52 = .ok (.invokevirtual 141, 3) := by decide +kernel
theorem dX10_nextToken_55 : decode cX10_nextToken 55 = .ok (.istore_n 1, 1) := by decide +kernel
theorem dX10_nextToken_56 : decode cX10_nextToken 56 = .ok (.aload_n 0, 1) := by decide +kernel
theorem dX10_nextToken_57 : decode cX10_nextToken 57 = .ok (.iconst 4, 1) := by decide +kernel
theorem dX10_nextToken_58 : decode cX10_nextToken 58 = .ok (.putfield 147, 3) := by decide +kernel
theorem dX10_nextToken_61 : decode cX10_nextToken 61 = .ok (.iload_n 1, 1) := by decide +kernel
theorem dX10_nextToken_62 : decode cX10_nextToken 62 = .ok (.ifCond .ge 19, 3) := by decide +kernel
theorem dX10_nextToken_65 : decode cX10_nextToken 65 = .ok (.aload_n 0, 1) := by decide +kernel
theorem dX10_nextToken_66 : decode cX10_nextToken 66 = .ok (.iconst 0, 1) := by decide +kernel
theorem dX10_nextToken_67 : decode cX10_nextToken 67 = .ok (.putfield 147, 3) := by decide +kernel
theorem dX10_nextToken_70 : decode cX10_nextToken 70 = .ok (.aload_n 0, 1) := by decide +kernel
theorem dX10_nextToken_71 : decode cX10_nextToken 71 = .ok (.aload_n 0, 1) := by decide +kernel
theorem dX10_nextToken_72 : decode cX10_nextToken 72 = .ok (.getfield 132, 3) := by decide +kernel
theorem dX10_nextToken_75 : decode cX10_nextToken 75 = .ok (.putfield 144, 3) := by decide +kernel
theorem dX10_nextToken_78 : decode cX10_nextToken 78 = .ok (.goto 243, 3) := by decide +kernel
theorem dX10_nextToken_81 : decode cX10_nextToken 81 = .ok (.iload_n 1, 1) := by decide +kernel
theorem dX10_nextToken_82 : decode cX10_nextToken 82 = .ok (.i2l, 1) := by decide +kernel
theorem dX10_nextToken_83 : decode cX10_nextToken 83 = .ok (.ldc2_w 150, 3) := by decide +kernel
theorem dX10_nextToken_86 : decode cX10_nextToken 86 = .ok (.ldc2_w 152, 3) := by decide +kernel
theorem dX10_nextToken_89 : decode cX10_nextToken 89 = .ok (.invokestatic 79, 3) := by decide +kernel
theorem dX10_nextToken_92 : decode cX10_nextToken 92 = .ok (.ifCond .eq 42, 3) := by decide +kernel
theorem dX10_nextToken_95 : decode cX10_nextToken 95 = .ok (.aload_n 0, 1) := by decide +kernel
theorem dX10_nextToken_96 : decode cX10_nextToken 96 = .ok (.iconst 1, 1) := by decide +kernel
theorem dX10_nextToken_97 : decode cX10_nextToken 97 = .ok (.putfield 147, 3) := by decide +kernel
theorem dX10_nextToken_100 : decode cX10_nextToken 100 = .ok (.aload_n 0, 1) := by decide +kernel
theorem dX10_nextToken_101 : decode cX10_nextToken 101 = .ok (.aload_n 0, 1) := by decide +kernel
theorem dX10_nextToken_102 : decode cX10_nextToken 102 = .ok (.getfield 138, 3) := by decide +kernel
theorem dX10_nextToken_105 : decode cX10_nextToken 105 = .ok (.invokevirtual 141, 3) := by decide +kernel
theorem dX10_nextToken_108 : decode cX10_nextToken 108 = .ok (.i2l, 1) := by decide +kernel
theorem dX10_nextToken_109 : decode cX10_nextToken 109 = .ok (.ldc2_w 150, 3) := by decide +kernel
theorem dX10_nextToken_112 : decode cX10_nextToken 112 = .ok (.ldc2_w 152, 3) := by decide +kernel
theorem dX10_nextToken_115 : decode cX10_nextToken 115 = .ok (.invokestatic 79, 3) := by decide +kernel
theorem dX10_nextToken_118 : decode cX10_nextToken 118 = .ok (.ifCond .eq 203, 3) := by decide +kernel
theorem dX10_nextToken_121 : decode cX10_nextToken 121 = .ok (.aload_n 0, 1) := by decide +kernel
theorem dX10_nextToken_122 : decode cX10_nextToken 122 = .ok (.dup, 1) := by decide +kernel
theorem dX10_nextToken_123 : decode cX10_nextToken 123 = .ok (.getfield 138, 3) := by decide +kernel
theorem dX10_nextToken_126 : decode cX10_nextToken 126 = .ok (.iconst 1, 1) := by decide +kernel
theorem dX10_nextToken_127 : decode cX10_nextToken 127 = .ok (.iadd, 1) := by decide +kernel
theorem dX10_nextToken_128 : decode cX10_nextToken 128 = .ok (.putfield 138, 3) := by decide +kernel
theorem dX10_nextToken_131 : decode cX10_nextToken 131 = .ok (.goto (-31), 3) := by decide +kernel
theorem dX10_nextToken_134 : decode cX10_nextToken 134 = .ok (.iload_n 1, 1) := by decide +kernel
theorem dX10_nextToken_135 : decode cX10_nextToken 135 = .ok (.i2l, 1) := by decide +kernel
theorem dX10_nextToken_136 : decode cX10_nextToken 136 = .ok (.ldc2_w 154, 3) := by decide +kernel
theorem dX10_nextToken_139 : decode cX10_nextToken 139 = .ok (.ldc2_w 156, 3) := by decide +kernel
theorem dX10_nextToken_142 : decode cX10_nextToken 142 = .ok (.invokestatic 79, 3) := by decide +kernel
theorem dX10_nextToken_145 : decode cX10_nextToken 145 = .ok (.ifCond .eq 107, 3) := by decide +kernel
theorem dX10_nextToken_148 : decode cX10_nextToken 148 = .ok (.aload_n 0, 1) := by decide +kernel
theorem dX10_nextToken_149 : decode cX10_nextToken 149 = .ok (.iconst 2, 1) := by decide +kernel
theorem dX10_nextToken_150 : decode cX10_nextToken 150 = .ok (.putfield 147, 3) := by decide +kernel
theorem dX10_nextToken_153 : decode cX10_nextToken 153 = .ok (.aload_n 0, 1) := by decide +kernel
theorem dX10_nextToken_154 : decode cX10_nextToken 154 = .ok (.lconst 0, 1) := by decide +kernel
theorem dX10_nextToken_155 : decode cX10_nextToken 155 = .ok (.putfield 158, 3) := by decide +kernel
theorem dX10_nextToken_158 : decode cX10_nextToken 158 = .ok (.iconst 0, 1) := by decide +kernel
theorem dX10_nextToken_159 : decode cX10_nextToken 159 = .ok (.istore_n 2, 1) := by decide +kernel
theorem dX10_nextToken_160 : decode cX10_nextToken 160 = .ok (.aload_n 0, 1) := by decide +kernel
theorem dX10_nextToken_161 : decode cX10_nextToken 161 = .ok (.aload_n 0, 1) := by decide +kernel
theorem dX10_nextToken_162 : decode cX10_nextToken 162 = .ok (.getfield 138, 3) := by decide +kernel
theorem dX10_nextToken_165 : decode cX10_nextToken 165 = .ok (.invokevirtual 141, 3) := by decide +kernel
theorem dX10_nextToken_168 : decode cX10_nextToken 168 = .ok (.i2l, 1) := by decide +kernel
theorem dX10_nextToken_169 : decode cX10_nextToken 169 = .ok (.ldc2_w 154, 3) := by decide +kernel
theorem dX10_nextToken_172 : decode cX10_nextToken 172 = .ok (.ldc2_w 156, 3) := by decide +kernel
theorem dX10_nextToken_175 : decode cX10_nextToken 175 = .ok (.invokestatic 79, 3) := by decide +kernel
theorem dX10_nextToken_178 : decode cX10_nextToken 178 = .ok (.ifCond .eq 57, 3) := by decide +kernel
theorem dX10_nextToken_181 : decode cX10_nextToken 181 = .ok (.aload_n 0, 1) := by decide +kernel
theorem dX10_nextToken_182 : decode cX10_nextToken 182 = .ok (.iload_n 2, 1) := by decide +kernel
theorem dX10_nextToken_183 : decode cX10_nextToken 183 = .ok (.iconst 4, 1) := by decide +kernel
theorem dX10_nextToken_184 : decode cX10_nextToken 184 = .ok (.if_icmp .ge 28, 3) := by decide +kernel
theorem dX10_nextToken_187 : decode cX10_nextToken 187 = .ok (.ldc2_w 162, 3) := by decide +kernel
theorem dX10_nextToken_190 : decode cX10_nextToken 190 = .ok (.aload_n 0, 1) := by decide +kernel
theorem dX10_nextToken_191 : decode cX10_nextToken 191 = .ok (.getfield 158, 3) := by decide +kernel
theorem dX10_nextToken_194 : decode cX10_nextToken 194 = .ok (.lmul, 1) := by decide +kernel
theorem dX10_nextToken_195 : decode cX10_nextToken 195 = .ok (.aload_n 0, 1) := by decide +kernel
theorem dX10_nextToken_196 : decode cX10_nextToken 196 = .ok (.aload_n 0, 1) := by decide +kernel
theorem dX10_nextToken_197 : decode cX10_nextToken 197 = .ok (.getfield 138, 3) := by decide +kernel
theorem dX10_nextToken_200 : decode cX10_nextToken 200 = .ok (.invokevirtual 141, 3) := by decide +kernel
theorem dX10_nextToken_203 : decode cX10_nextToken 203 = .ok (.i2l, 1) := by decide +kernel
theorem dX10_nextToken_204 : decode cX10_nextToken 204 = .ok (.ladd, 1) := by decide +kernel
theorem dX10_nextToken_205 : decode cX10_nextToken 205 = .ok (.ldc2_w 154, 3) := by decide +kernel
theorem dX10_nextToken_208 : decode cX10_nextToken 208 = .ok (.lsub, 1) := by decide +kernel
theorem dX10_nextToken_209 : decode cX10_nextToken 209 = .ok (.goto 7, 3) := by decide +kernel
theorem dX10_nextToken_212 : decode cX10_nextToken 212 = .ok (.aload_n 0, 1) := by decide +kernel
theorem dX10_nextToken_213 : decode cX10_nextToken 213 = .ok (.getfield 158, 3) := by decide +kernel
theorem dX10_nextToken_216 : decode cX10_nextToken 216 = .ok (.putfield 158, 3) := by decide +kernel
theorem dX10_nextToken_219 : decode cX10_nextToken 219 = .ok (.iinc 2 1, 3) := by decide +kernel
theorem dX10_nextToken_222 : decode cX10_nextToken 222 = .ok (.aload_n 0, 1) := by decide +kernel
theorem dX10_nextToken_223 : decode cX10_nextToken 223 = .ok (.dup, 1) := by decide +kernel
theorem dX10_nextToken_224 : decode cX10_nextToken 224 = .ok (.getfield 138, 3) := by decide +kernel
theorem dX10_nextToken_227 : decode cX10_nextToken 227 = .ok (.iconst 1, 1) := by decide +kernel
theorem dX10_nextToken_228 : decode cX10_nextToken 228 = .ok (.iadd, 1) := by decide +kernel
theorem dX10_nextToken_229 : decode cX10_nextToken 229 = .ok (.putfield 138, 3) := by decide +kernel
theorem dX10_nextToken_232 : decode cX10_nextToken 232 = .ok (.goto (-72), 3) := by decide +kernel
theorem dX10_nextToken_235 : decode cX10_nextToken 235 = .ok (.aload_n 0, 1) := by decide +kernel
theorem dX10_nextToken_236 : decode cX10_nextToken 236 = .ok (.iload_n 2, 1) := by decide +kernel
theorem dX10_nextToken_237 : decode cX10_nextToken 237 = .ok (.iconst 4, 1) := by decide +kernel
theorem dX10_nextToken_238 : decode cX10_nextToken 238 = .ok (.if_icmp .le 7, 3) := by decide +kernel
theorem dX10_nextToken_241 : decode cX10_nextToken 241 = .ok (.iconst 4, 1) := by decide +kernel
theorem dX10_nextToken_242 : decode cX10_nextToken 242 = .ok (.goto 4, 3) := by decide +kernel
theorem dX10_nextToken_245 : decode cX10_nextToken 245 = .ok (.iconst 2, 1) := by decide +kernel
theorem dX10_nextToken_246 : decode cX10_nextToken 246 = .ok (.putfield 147, 3) := by decide +kernel
theorem dX10_nextToken_249 : decode cX10_nextToken 249 = .ok (.goto 72, 3) := by decide +kernel
theorem dX10_nextToken_252 : decode cX10_nextToken 252 = .ok (.iload_n 1, 1) := by decide +kernel
theorem dX10_nextToken_253 : decode cX10_nextToken 253 = .ok (.bipush 40, 2) := by decide +kernel
theorem dX10_nextToken_255 : decode cX10_nextToken 255 = .ok (.if_icmp .eq 45, 3) := by decide +kernel
theorem dX10_nextToken_258 : decode cX10_nextToken 258 = .ok (.iload_n 1, 1) := by decide +kernel
theorem dX10_nextToken_259 : decode cX10_nextToken 259 = .ok (.bipush 41, 2) := by decide +kernel
theorem dX10_nextToken_261 : decode cX10_nextToken 261 = .ok (.if_icmp .eq 39, 3) := by decide +kernel
theorem dX10_nextToken_264 : decode cX10_nextToken 264 = .ok (.iload_n 1, 1) := by decide +kernel
theorem dX10_nextToken_265 : decode cX10_nextToken 265 = .ok (.bipush 59, 2) := by decide +kernel
theorem dX10_nextToken_267 : decode cX10_nextToken 267 = .ok (.if_icmp .eq 33, 3) := by decide +kernel
theorem dX10_nextToken_270 : decode cX10_nextToken 270 = .ok (.iload_n 1, 1) := by decide +kernel
theorem dX10_nextToken_271 : decode cX10_nextToken 271 = .ok (.bipush 43, 2) := by decide +kernel
theorem dX10_nextToken_273 : decode cX10_nextToken 273 = .ok (.if_icmp .eq 27, 3) := by decide +kernel
theorem dX10_nextToken_276 : decode cX10_nextToken 276 = .ok (.iload_n 1, 1) := by decide +kernel
theorem dX10_nextToken_277 : decode cX10_nextToken 277 = .ok (.bipush 45, 2) := by decide +kernel
theorem dX10_nextToken_279 : decode cX10_nextToken 279 = .ok (.if_icmp .eq 21, 3) := by decide +kernel
theorem dX10_nextToken_282 : decode cX10_nextToken 282 = .ok (.iload_n 1, 1) := by decide +kernel
theorem dX10_nextToken_283 : decode cX10_nextToken 283 = .ok (.bipush 42, 2) := by decide +kernel
theorem dX10_nextToken_285 : decode cX10_nextToken 285 = .ok (.if_icmp .eq 15, 3) := by decide +kernel
theorem dX10_nextToken_288 : decode cX10_nextToken 288 = .ok (.iload_n 1, 1) := by decide +kernel
theorem dX10_nextToken_289 : decode cX10_nextToken 289 = .ok (.bipush 60, 2) := by decide +kernel
theorem dX10_nextToken_291 : decode cX10_nextToken 291 = .ok (.if_icmp .eq 9, 3) := by decide +kernel
theorem dX10_nextToken_294 : decode cX10_nextToken 294 = .ok (.iload_n 1, 1) := by decide +kernel
theorem dX10_nextToken_295 : decode cX10_nextToken 295 = .ok (.bipush 61, 2) := by decide +kernel
theorem dX10_nextToken_297 : decode cX10_nextToken 297 = .ok (.if_icmp .ne 24, 3) := by decide +kernel
theorem dX10_nextToken_300 : decode cX10_nextToken 300 = .ok (.aload_n 0, 1) := by decide +kernel
theorem dX10_nextToken_301 : decode cX10_nextToken 301 = .ok (.iconst 3, 1) := by decide +kernel
theorem dX10_nextToken_302 : decode cX10_nextToken 302 = .ok (.putfield 147, 3) := by decide +kernel
theorem dX10_nextToken_305 : decode cX10_nextToken 305 = .ok (.aload_n 0, 1) := by decide +kernel
theorem dX10_nextToken_306 : decode cX10_nextToken 306 = .ok (.iload_n 1, 1) := by decide +kernel
theorem dX10_nextToken_307 : decode cX10_nextToken 307 = .ok (.i2l, 1) := by decide +kernel
theorem dX10_nextToken_308 : decode cX10_nextToken 308 = .ok (.putfield 158, 3) := by decide +kernel
theorem dX10_nextToken_311 : decode cX10_nextToken 311 = .ok (.aload_n 0, 1) := by decide +kernel
theorem dX10_nextToken_312 : decode cX10_nextToken 312 = .ok (.dup, 1) := by decide +kernel
theorem dX10_nextToken_313 : decode cX10_nextToken 313 = .ok (.getfield 138, 3) := by decide +kernel
theorem dX10_nextToken_316 : decode cX10_nextToken 316 = .ok (.iconst 1, 1) := by decide +kernel
theorem dX10_nextToken_317 : decode cX10_nextToken 317 = .ok (.iadd, 1) := by decide +kernel
theorem dX10_nextToken_318 : decode cX10_nextToken 318 = .ok (.putfield 138, 3) := by decide +kernel
theorem dX10_nextToken_321 : decode cX10_nextToken 321 = .ok (.return_, 1) := by decide +kernel
theorem dX10_fail_0 : decode cX10_fail 0 = .ok (.aload_n 0, 1) := by decide +kernel
theorem dX10_fail_1 : decode cX10_fail 1 = .ok (.getfield 164, 3) := by decide +kernel
theorem dX10_fail_4 : decode cX10_fail 4 = .ok (.ifCond .ne 16, 3) := by decide +kernel
theorem dX10_fail_7 : decode cX10_fail 7 = .ok (.aload_n 0, 1) := by decide +kernel
theorem dX10_fail_8 : decode cX10_fail 8 = .ok (.iconst 1, 1) := by decide +kernel
theorem dX10_fail_9 : decode cX10_fail 9 = .ok (.putfield 164, 3) := by decide +kernel
theorem dX10_fail_12 : decode cX10_fail 12 = .ok (.aload_n 0, 1) := by decide +kernel
theorem dX10_fail_13 : decode cX10_fail 13 = .ok (.aload_n 0, 1) := by decide +kernel
theorem dX10_fail_14 : decode cX10_fail 14 = .ok (.getfield 144, 3) := by decide +kernel
theorem dX10_fail_17 : decode cX10_fail 17 = .ok (.putfield 168, 3) := by decide +kernel
theorem dX10_fail_20 : decode cX10_fail 20 = .ok (.return_, 1) := by decide +kernel
theorem dX10_isLetter_0 : decode cX10_isLetter 0 = .ok (.aload_n 0, 1) := by decide +kernel
theorem dX10_isLetter_1 : decode cX10_isLetter 1 = .ok (.getfield 144, 3) := by decide +kernel
theorem dX10_isLetter_4 : decode cX10_isLetter 4 = .ok (.iload_n 1, 1) := by decide +kernel
theorem dX10_isLetter_5 : decode cX10_isLetter 5 = .ok (.iadd, 1) := by decide +kernel
theorem dX10_isLetter_6 : decode cX10_isLetter 6 = .ok (.aload_n 0, 1) := by decide +kernel
theorem dX10_isLetter_7 : decode cX10_isLetter 7 = .ok (.getfield 138, 3) := by decide +kernel
theorem dX10_isLetter_10 : decode cX10_isLetter 10 = .ok (.if_icmp .ge 25, 3) := by decide +kernel
theorem dX10_isLetter_13 : decode cX10_isLetter 13 = .ok (.aload_n 0, 1) := by decide +kernel
theorem dX10_isLetter_14 : decode cX10_isLetter 14 = .ok (.aload_n 0, 1) := by decide +kernel
theorem dX10_isLetter_15 : decode cX10_isLetter 15 = .ok (.getfield 144, 3) := by decide +kernel
theorem dX10_isLetter_18 : decode cX10_isLetter 18 = .ok (.iload_n 1, 1) := by decide +kernel
theorem dX10_isLetter_19 : decode cX10_isLetter 19 = .ok (.iadd, 1) := by decide +kernel
theorem dX10_isLetter_20 : decode cX10_isLetter 20 = .ok (.invokevirtual 141, 3) := by decide +kernel
theorem dX10_isLetter_23 : decode cX10_isLetter 23 = .ok (.iload_n 2, 1) := by decide +kernel
theorem dX10_isLetter_24 : decode cX10_isLetter 24 = .ok (.if_icmp .ne 7, 3) := by decide +kernel
theorem dX10_isLetter_27 : decode cX10_isLetter 27 = .ok (.iconst 1, 1) := by decide +kernel
theorem dX10_isLetter_28 : decode cX10_isLetter 28 = .ok (.goto 16, 3) := by decide +kernel
theorem dX10_isLetter_31 : decode cX10_isLetter 31 = .ok (.iconst 0, 1) := by decide +kernel
theorem dX10_isLetter_32 : decode cX10_isLetter 32 = .ok (.goto 12, 3) := by decide +kernel
theorem dX10_isLetter_35 : decode cX10_isLetter 35 = .ok (.iload_n 2, 1) := by decide +kernel
theorem dX10_isLetter_36 : decode cX10_isLetter 36 = .ok (.ifCond .ne 7, 3) := by decide +kernel
theorem dX10_isLetter_39 : decode cX10_isLetter 39 = .ok (.iconst 1, 1) := by decide +kernel
theorem dX10_isLetter_40 : decode cX10_isLetter 40 = .ok (.goto 4, 3) := by decide +kernel
theorem dX10_isLetter_43 : decode cX10_isLetter 43 = .ok (.iconst 0, 1) := by decide +kernel
theorem dX10_isLetter_44 : decode cX10_isLetter 44 = .ok (.ireturn, 1) := by decide +kernel
theorem dX10_isWord_0 : decode cX10_isWord 0 = .ok (.aload_n 0, 1) := by decide +kernel
theorem dX10_isWord_1 : decode cX10_isWord 1 = .ok (.getfield 164, 3) := by decide +kernel
theorem dX10_isWord_4 : decode cX10_isWord 4 = .ok (.ifCond .ne 108, 3) := by decide +kernel
theorem dX10_isWord_7 : decode cX10_isWord 7 = .ok (.aload_n 0, 1) := by decide +kernel
theorem dX10_isWord_8 : decode cX10_isWord 8 = .ok (.getfield 147, 3) := by decide +kernel
theorem dX10_isWord_11 : decode cX10_isWord 11 = .ok (.iconst 1, 1) := by decide +kernel
theorem dX10_isWord_12 : decode cX10_isWord 12 = .ok (.if_icmp .ne 100, 3) := by decide +kernel
theorem dX10_isWord_15 : decode cX10_isWord 15 = .ok (.aload_n 0, 1) := by decide +kernel
theorem dX10_isWord_16 : decode cX10_isWord 16 = .ok (.getfield 138, 3) := by decide +kernel
theorem dX10_isWord_19 : decode cX10_isWord 19 = .ok (.aload_n 0, 1) := by decide +kernel
theorem dX10_isWord_20 : decode cX10_isWord 20 = .ok (.getfield 144, 3) := by decide +kernel
theorem dX10_isWord_23 : decode cX10_isWord 23 = .ok (.bipush 8, 2) := by decide +kernel
theorem dX10_isWord_25 : decode cX10_isWord 25 = .ok (.iadd, 1) := by decide +kernel
theorem dX10_isWord_26 : decode cX10_isWord 26 = .ok (.if_icmp .gt 86, 3) := by decide +kernel
theorem dX10_isWord_29 : decode cX10_isWord 29 = .ok (.aload_n 0, 1) := by decide +kernel
theorem dX10_isWord_30 : decode cX10_isWord 30 = .ok (.iconst 0, 1) := by decide +kernel
theorem dX10_isWord_31 : decode cX10_isWord 31 = .ok (.iload_n 1, 1) := by decide +kernel
theorem dX10_isWord_32 : decode cX10_isWord 32 = .ok (.invokevirtual 171, 3) := by decide +kernel
theorem dX10_isWord_35 : decode cX10_isWord 35 = .ok (.ifCond .eq 77, 3) := by decide +kernel
theorem dX10_isWord_38 : decode cX10_isWord 38 = .ok (.aload_n 0, 1) := by decide +kernel
theorem dX10_isWord_39 : decode cX10_isWord 39 = .ok (.iconst 1, 1) := by decide +kernel
theorem dX10_isWord_40 : decode cX10_isWord 40 = .ok (.iload_n 2, 1) := by decide +kernel
theorem dX10_isWord_41 : decode cX10_isWord 41 = .ok (.invokevirtual 171, 3) := by decide +kernel
theorem dX10_isWord_44 : decode cX10_isWord 44 = .ok (.ifCond .eq 68, 3) := by decide +kernel
theorem dX10_isWord_47 : decode cX10_isWord 47 = .ok (.aload_n 0, 1) := by decide +kernel
theorem dX10_isWord_48 : decode cX10_isWord 48 = .ok (.iconst 2, 1) := by decide +kernel
theorem dX10_isWord_49 : decode cX10_isWord 49 = .ok (.iload_n 3, 1) := by decide +kernel
theorem dX10_isWord_50 : decode cX10_isWord 50 = .ok (.invokevirtual 171, 3) := by decide +kernel
theorem dX10_isWord_53 : decode cX10_isWord 53 = .ok (.ifCond .eq 59, 3) := by decide +kernel
theorem dX10_isWord_56 : decode cX10_isWord 56 = .ok (.aload_n 0, 1) := by decide +kernel
theorem dX10_isWord_57 : decode cX10_isWord 57 = .ok (.iconst 3, 1) := by decide +kernel
theorem dX10_isWord_58 : decode cX10_isWord 58 = .ok (.iload 4, 2) := by decide +kernel
theorem dX10_isWord_60 : decode cX10_isWord 60 = .ok (.invokevirtual 171, 3) := by decide +kernel
theorem dX10_isWord_63 : decode cX10_isWord 63 = .ok (.ifCond .eq 49, 3) := by decide +kernel
theorem dX10_isWord_66 : decode cX10_isWord 66 = .ok (.aload_n 0, 1) := by decide +kernel
theorem dX10_isWord_67 : decode cX10_isWord 67 = .ok (.iconst 4, 1) := by decide +kernel
theorem dX10_isWord_68 : decode cX10_isWord 68 = .ok (.iload 5, 2) := by decide +kernel
theorem dX10_isWord_70 : decode cX10_isWord 70 = .ok (.invokevirtual 171, 3) := by decide +kernel
theorem dX10_isWord_73 : decode cX10_isWord 73 = .ok (.ifCond .eq 39, 3) := by decide +kernel
theorem dX10_isWord_76 : decode cX10_isWord 76 = .ok (.aload_n 0, 1) := by decide +kernel
theorem dX10_isWord_77 : decode cX10_isWord 77 = .ok (.iconst 5, 1) := by decide +kernel
theorem dX10_isWord_78 : decode cX10_isWord 78 = .ok (.iload 6, 2) := by decide +kernel
theorem dX10_isWord_80 : decode cX10_isWord 80 = .ok (.invokevirtual 171, 3) := by decide +kernel
theorem dX10_isWord_83 : decode cX10_isWord 83 = .ok (.ifCond .eq 29, 3) := by decide +kernel
theorem dX10_isWord_86 : decode cX10_isWord 86 = .ok (.aload_n 0, 1) := by decide +kernel
theorem dX10_isWord_87 : decode cX10_isWord 87 = .ok (.bipush 6, 2) := by decide +kernel
theorem dX10_isWord_89 : decode cX10_isWord 89 = .ok (.iload 7, 2) := by decide +kernel
theorem dX10_isWord_91 : decode cX10_isWord 91 = .ok (.invokevirtual 171, 3) := by decide +kernel
theorem dX10_isWord_94 : decode cX10_isWord 94 = .ok (.ifCond .eq 18, 3) := by decide +kernel
theorem dX10_isWord_97 : decode cX10_isWord 97 = .ok (.aload_n 0, 1) := by decide +kernel
theorem dX10_isWord_98 : decode cX10_isWord 98 = .ok (.bipush 7, 2) := by decide +kernel
theorem dX10_isWord_100 : decode cX10_isWord 100 = .ok (.iload 8, 2) := by decide +kernel
theorem dX10_isWord_102 : decode cX10_isWord 102 = .ok (.invokevirtual 171, 3) := by decide +kernel
theorem dX10_isWord_105 : decode cX10_isWord 105 = .ok (.ifCond .eq 7, 3) := by decide +kernel
theorem dX10_isWord_108 : decode cX10_isWord 108 = .ok (.iconst 1, 1) := by decide +kernel
theorem dX10_isWord_109 : decode cX10_isWord 109 = .ok (.goto 4, 3) := by decide +kernel
theorem dX10_isWord_112 : decode cX10_isWord 112 = .ok (.iconst 0, 1) := by decide +kernel
theorem dX10_isWord_113 : decode cX10_isWord 113 = .ok (.ireturn, 1) := by decide +kernel
theorem dX10_isSign_0 : decode cX10_isSign 0 = .ok (.aload_n 0, 1) := by decide +kernel
theorem dX10_isSign_1 : decode cX10_isSign 1 = .ok (.getfield 164, 3) := by decide +kernel
theorem dX10_isSign_4 : decode cX10_isSign 4 = .ok (.ifCond .ne 25, 3) := by decide +kernel
theorem dX10_isSign_7 : decode cX10_isSign 7 = .ok (.aload_n 0, 1) := by decide +kernel
theorem dX10_isSign_8 : decode cX10_isSign 8 = .ok (.getfield 147, 3) := by decide +kernel
theorem dX10_isSign_11 : decode cX10_isSign 11 = .ok (.iconst 3, 1) := by decide +kernel
theorem dX10_isSign_12 : decode cX10_isSign 12 = .ok (.if_icmp .ne 17, 3) := by decide +kernel
theorem dX10_isSign_15 : decode cX10_isSign 15 = .ok (.aload_n 0, 1) := by decide +kernel
theorem dX10_isSign_16 : decode cX10_isSign 16 = .ok (.getfield 158, 3) := by decide +kernel
theorem dX10_isSign_19 : decode cX10_isSign 19 = .ok (.iload_n 1, 1) := by decide +kernel
theorem dX10_isSign_20 : decode cX10_isSign 20 = .ok (.i2l, 1) := by decide +kernel
theorem dX10_isSign_21 : decode cX10_isSign 21 = .ok (.lcmp, 1) := by decide +kernel
theorem dX10_isSign_22 : decode cX10_isSign 22 = .ok (.ifCond .ne 7, 3) := by decide +kernel
theorem dX10_isSign_25 : decode cX10_isSign 25 = .ok (.iconst 1, 1) := by decide +kernel
theorem dX10_isSign_26 : decode cX10_isSign 26 = .ok (.goto 4, 3) := by decide +kernel
theorem dX10_isSign_29 : decode cX10_isSign 29 = .ok (.iconst 0, 1) := by decide +kernel
theorem dX10_isSign_30 : decode cX10_isSign 30 = .ok (.ireturn, 1) := by decide +kernel
theorem dX10_opens_0 : decode cX10_opens 0 = .ok (.aload_n 0, 1) := by decide +kernel
theorem dX10_opens_1 : decode cX10_opens 1 = .ok (.getfield 175, 3) := by decide +kernel
theorem dX10_opens_4 : decode cX10_opens 4 = .ok (.iconst 5, 1) := by decide +kernel
theorem dX10_opens_5 : decode cX10_opens 5 = .ok (.if_icmp .ne 9, 3) := by decide +kernel
theorem dX10_opens_8 : decode cX10_opens 8 = .ok (.aload_n 0, 1) := by decide +kernel
theorem dX10_opens_9 : decode cX10_opens 9 = .ok (.invokevirtual 178, 3) := by decide +kernel
theorem dX10_opens_12 : decode cX10_opens 12 = .ok (.iconst 0, 1) := by decide +kernel
theorem dX10_opens_13 : decode cX10_opens 13 = .ok (.ireturn, 1) := by decide +kernel
theorem dX10_opens_14 : decode cX10_opens 14 = .ok (.aload_n 0, 1) := by decide +kernel
theorem dX10_opens_15 : decode cX10_opens 15 = .ok (.dup, 1) := by decide +kernel
theorem dX10_opens_16 : decode cX10_opens 16 = .ok (.getfield 175, 3) := by decide +kernel
theorem dX10_opens_19 : decode cX10_opens 19 = .ok (.iconst 1, 1) := by decide +kernel
theorem dX10_opens_20 : decode cX10_opens 20 = .ok (.iadd, 1) := by decide +kernel
theorem dX10_opens_21 : decode cX10_opens 21 = .ok (.putfield 175, 3) := by decide +kernel
theorem dX10_opens_24 : decode cX10_opens 24 = .ok (.aload_n 0, 1) := by decide +kernel
theorem dX10_opens_25 : decode cX10_opens 25 = .ok (.invokevirtual 181, 3) := by decide +kernel
theorem dX10_opens_28 : decode cX10_opens 28 = .ok (.iconst 1, 1) := by decide +kernel
theorem dX10_opens_29 : decode cX10_opens 29 = .ok (.ireturn, 1) := by decide +kernel
theorem dX10_name_0 : decode cX10_name 0 = .ok (.aload_n 0, 1) := by decide +kernel
theorem dX10_name_1 : decode cX10_name 1 = .ok (.bipush 115, 2) := by decide +kernel
theorem dX10_name_3 : decode cX10_name 3 = .ok (.bipush 116, 2) := by decide +kernel
theorem dX10_name_5 : decode cX10_name 5 = .ok (.bipush 101, 2) := by decide +kernel
theorem dX10_name_7 : decode cX10_name 7 = .ok (.bipush 109, 2) := by decide +kernel
theorem dX10_name_9 : decode cX10_name 9 = .ok (.iconst 0, 1) := by decide +kernel
theorem dX10_name_10 : decode cX10_name 10 = .ok (.iconst 0, 1) := by decide +kernel
theorem dX10_name_11 : decode cX10_name 11 = .ok (.iconst 0, 1) := by decide +kernel
theorem dX10_name_12 : decode cX10_name 12 = .ok (.iconst 0, 1) := by decide +kernel
theorem dX10_name_13 : decode cX10_name 13 = .ok (.invokevirtual 184, 3) := by decide +kernel
theorem dX10_name_16 : decode cX10_name 16 = .ok (.ifCond .eq 8, 3) := by decide +kernel
theorem dX10_name_19 : decode cX10_name 19 = .ok (.aload_n 0, 1) := by decide +kernel
theorem dX10_name_20 : decode cX10_name 20 = .ok (.getfield 188, 3) := by decide +kernel
theorem dX10_name_23 : decode cX10_name 23 = .ok (.ireturn, 1) := by decide +kernel
theorem dX10_name_24 : decode cX10_name 24 = .ok (.aload_n 0, 1) := by decide +kernel
theorem dX10_name_25 : decode cX10_name 25 = .ok (.bipush 99, 2) := by decide +kernel
theorem dX10_name_27 : decode cX10_name 27 = .ok (.bipush 111, 2) := by decide +kernel
theorem dX10_name_29 : decode cX10_name 29 = .ok (.bipush 108, 2) := by decide +kernel
theorem dX10_name_31 : decode cX10_name 31 = .ok (.bipush 111, 2) := by decide +kernel
theorem dX10_name_33 : decode cX10_name 33 = .ok (.bipush 117, 2) := by decide +kernel
theorem dX10_name_35 : decode cX10_name 35 = .ok (.bipush 114, 2) := by decide +kernel
theorem dX10_name_37 : decode cX10_name 37 = .ok (.iconst 0, 1) := by decide +kernel
theorem dX10_name_38 : decode cX10_name 38 = .ok (.iconst 0, 1) := by decide +kernel
theorem dX10_name_39 : decode cX10_name 39 = .ok (.invokevirtual 184, 3) := by decide +kernel
theorem dX10_name_42 : decode cX10_name 42 = .ok (.ifCond .eq 8, 3) := by decide +kernel
theorem dX10_name_45 : decode cX10_name 45 = .ok (.aload_n 0, 1) := by decide +kernel
theorem dX10_name_46 : decode cX10_name 46 = .ok (.getfield 191, 3) := by decide +kernel
theorem dX10_name_49 : decode cX10_name 49 = .ok (.ireturn, 1) := by decide +kernel
theorem dX10_name_50 : decode cX10_name 50 = .ok (.aload_n 0, 1) := by decide +kernel
theorem dX10_name_51 : decode cX10_name 51 = .ok (.bipush 110, 2) := by decide +kernel
theorem dX10_name_53 : decode cX10_name 53 = .ok (.bipush 117, 2) := by decide +kernel
theorem dX10_name_55 : decode cX10_name 55 = .ok (.bipush 109, 2) := by decide +kernel
theorem dX10_name_57 : decode cX10_name 57 = .ok (.bipush 98, 2) := by decide +kernel
theorem dX10_name_59 : decode cX10_name 59 = .ok (.bipush 101, 2) := by decide +kernel
theorem dX10_name_61 : decode cX10_name 61 = .ok (.bipush 114, 2) := by decide +kernel
theorem dX10_name_63 : decode cX10_name 63 = .ok (.iconst 0, 1) := by decide +kernel
theorem dX10_name_64 : decode cX10_name 64 = .ok (.iconst 0, 1) := by decide +kernel
theorem dX10_name_65 : decode cX10_name 65 = .ok (.invokevirtual 184, 3) := by decide +kernel
theorem dX10_name_68 : decode cX10_name 68 = .ok (.ifCond .eq 8, 3) := by decide +kernel
theorem dX10_name_71 : decode cX10_name 71 = .ok (.aload_n 0, 1) := by decide +kernel
theorem dX10_name_72 : decode cX10_name 72 = .ok (.getfield 194, 3) := by decide +kernel
theorem dX10_name_75 : decode cX10_name 75 = .ok (.ireturn, 1) := by decide +kernel
theorem dX10_name_76 : decode cX10_name 76 = .ok (.aload_n 0, 1) := by decide +kernel
theorem dX10_name_77 : decode cX10_name 77 = .ok (.bipush 97, 2) := by decide +kernel
theorem dX10_name_79 : decode cX10_name 79 = .ok (.bipush 110, 2) := by decide +kernel
theorem dX10_name_81 : decode cX10_name 81 = .ok (.bipush 103, 2) := by decide +kernel
theorem dX10_name_83 : decode cX10_name 83 = .ok (.bipush 108, 2) := by decide +kernel
theorem dX10_name_85 : decode cX10_name 85 = .ok (.bipush 101, 2) := by decide +kernel
theorem dX10_name_87 : decode cX10_name 87 = .ok (.iconst 0, 1) := by decide +kernel
theorem dX10_name_88 : decode cX10_name 88 = .ok (.iconst 0, 1) := by decide +kernel
theorem dX10_name_89 : decode cX10_name 89 = .ok (.iconst 0, 1) := by decide +kernel
theorem dX10_name_90 : decode cX10_name 90 = .ok (.invokevirtual 184, 3) := by decide +kernel
theorem dX10_name_93 : decode cX10_name 93 = .ok (.ifCond .eq 8, 3) := by decide +kernel
theorem dX10_name_96 : decode cX10_name 96 = .ok (.aload_n 0, 1) := by decide +kernel
theorem dX10_name_97 : decode cX10_name 97 = .ok (.getfield 197, 3) := by decide +kernel
theorem dX10_name_100 : decode cX10_name 100 = .ok (.ireturn, 1) := by decide +kernel
theorem dX10_name_101 : decode cX10_name 101 = .ok (.aload_n 0, 1) := by decide +kernel
theorem dX10_name_102 : decode cX10_name 102 = .ok (.bipush 108, 2) := by decide +kernel
theorem dX10_name_104 : decode cX10_name 104 = .ok (.bipush 101, 2) := by decide +kernel
theorem dX10_name_106 : decode cX10_name 106 = .ok (.bipush 102, 2) := by decide +kernel
theorem dX10_name_108 : decode cX10_name 108 = .ok (.bipush 116, 2) := by decide +kernel
theorem dX10_name_110 : decode cX10_name 110 = .ok (.iconst 0, 1) := by decide +kernel
theorem dX10_name_111 : decode cX10_name 111 = .ok (.iconst 0, 1) := by decide +kernel
theorem dX10_name_112 : decode cX10_name 112 = .ok (.iconst 0, 1) := by decide +kernel
theorem dX10_name_113 : decode cX10_name 113 = .ok (.iconst 0, 1) := by decide +kernel
theorem dX10_name_114 : decode cX10_name 114 = .ok (.invokevirtual 184, 3) := by decide +kernel
theorem dX10_name_117 : decode cX10_name 117 = .ok (.ifCond .eq 8, 3) := by decide +kernel
theorem dX10_name_120 : decode cX10_name 120 = .ok (.aload_n 0, 1) := by decide +kernel
theorem dX10_name_121 : decode cX10_name 121 = .ok (.getfield 200, 3) := by decide +kernel
theorem dX10_name_124 : decode cX10_name 124 = .ok (.ireturn, 1) := by decide +kernel
theorem dX10_name_125 : decode cX10_name 125 = .ok (.aload_n 0, 1) := by decide +kernel
theorem dX10_name_126 : decode cX10_name 126 = .ok (.bipush 114, 2) := by decide +kernel
theorem dX10_name_128 : decode cX10_name 128 = .ok (.bipush 111, 2) := by decide +kernel
theorem dX10_name_130 : decode cX10_name 130 = .ok (.bipush 111, 2) := by decide +kernel
theorem dX10_name_132 : decode cX10_name 132 = .ok (.bipush 109, 2) := by decide +kernel
theorem dX10_name_134 : decode cX10_name 134 = .ok (.iconst 0, 1) := by decide +kernel
theorem dX10_name_135 : decode cX10_name 135 = .ok (.iconst 0, 1) := by decide +kernel
theorem dX10_name_136 : decode cX10_name 136 = .ok (.iconst 0, 1) := by decide +kernel
theorem dX10_name_137 : decode cX10_name 137 = .ok (.iconst 0, 1) := by decide +kernel
theorem dX10_name_138 : decode cX10_name 138 = .ok (.invokevirtual 184, 3) := by decide +kernel
theorem dX10_name_141 : decode cX10_name 141 = .ok (.ifCond .eq 8, 3) := by decide +kernel
theorem dX10_name_144 : decode cX10_name 144 = .ok (.aload_n 0, 1) := by decide +kernel
theorem dX10_name_145 : decode cX10_name 145 = .ok (.getfield 203, 3) := by decide +kernel
theorem dX10_name_148 : decode cX10_name 148 = .ok (.ireturn, 1) := by decide +kernel
theorem dX10_name_149 : decode cX10_name 149 = .ok (.aload_n 0, 1) := by decide +kernel
theorem dX10_name_150 : decode cX10_name 150 = .ok (.invokevirtual 178, 3) := by decide +kernel
theorem dX10_name_153 : decode cX10_name 153 = .ok (.iconst 0, 1) := by decide +kernel
theorem dX10_name_154 : decode cX10_name 154 = .ok (.ireturn, 1) := by decide +kernel
theorem dX10_atom_0 : decode cX10_atom 0 = .ok (.iconst 0, 1) := by decide +kernel
theorem dX10_atom_1 : decode cX10_atom 1 = .ok (.istore_n 1, 1) := by decide +kernel
theorem dX10_atom_2 : decode cX10_atom 2 = .ok (.aload_n 0, 1) := by decide +kernel
theorem dX10_atom_3 : decode cX10_atom 3 = .ok (.bipush 45, 2) := by decide +kernel
theorem dX10_atom_5 : decode cX10_atom 5 = .ok (.invokevirtual 206, 3) := by decide +kernel
theorem dX10_atom_8 : decode cX10_atom 8 = .ok (.ifCond .eq 29, 3) := by decide +kernel
theorem dX10_atom_11 : decode cX10_atom 11 = .ok (.aload_n 0, 1) := by decide +kernel
theorem dX10_atom_12 : decode cX10_atom 12 = .ok (.invokevirtual 209, 3) := by decide +kernel
theorem dX10_atom_15 : decode cX10_atom 15 = .ok (.ifCond .eq 146, 3) := by decide +kernel
theorem dX10_atom_18 : decode cX10_atom 18 = .ok (.aload_n 0, 1) := by decide +kernel
theorem dX10_atom_19 : decode cX10_atom 19 = .ok (.invokevirtual 213, 3) := by decide +kernel
theorem dX10_atom_22 : decode cX10_atom 22 = .ok (.ineg, 1) := by decide +kernel
theorem dX10_atom_23 : decode cX10_atom 23 = .ok (.istore_n 1, 1) := by decide +kernel
theorem dX10_atom_24 : decode cX10_atom 24 = .ok (.aload_n 0, 1) := by decide +kernel
theorem dX10_atom_25 : decode cX10_atom 25 = .ok (.dup, 1) := by decide +kernel
theorem dX10_atom_26 : decode cX10_atom 26 = .ok (.getfield 175, 3) := by decide +kernel
theorem dX10_atom_29 : decode cX10_atom 29 = .ok (.iconst 1, 1) := by decide +kernel
theorem dX10_atom_30 : decode cX10_atom 30 = .ok (.isub, 1) := by decide +kernel
theorem dX10_atom_31 : decode cX10_atom 31 = .ok (.putfield 175, 3) := by decide +kernel
theorem dX10_atom_34 : decode cX10_atom 34 = .ok (.goto 127, 3) := by decide +kernel
theorem dX10_atom_37 : decode cX10_atom 37 = .ok (.aload_n 0, 1) := by decide +kernel
theorem dX10_atom_38 : decode cX10_atom 38 = .ok (.bipush 40, 2) := by decide +kernel
theorem dX10_atom_40 : decode cX10_atom 40 = .ok (.invokevirtual 206, 3) := by decide +kernel
theorem dX10_atom_43 : decode cX10_atom 43 = .ok (.ifCond .eq 52, 3) := by decide +kernel
theorem dX10_atom_46 : decode cX10_atom 46 = .ok (.aload_n 0, 1) := by decide +kernel
theorem dX10_atom_47 : decode cX10_atom 47 = .ok (.invokevirtual 209, 3) := by decide +kernel
theorem dX10_atom_50 : decode cX10_atom 50 = .ok (.ifCond .eq 111, 3) := by decide +kernel
theorem dX10_atom_53 : decode cX10_atom 53 = .ok (.aload_n 0, 1) := by decide +kernel
theorem dX10_atom_54 : decode cX10_atom 54 = .ok (.invokevirtual 217, 3) := by decide +kernel
theorem dX10_atom_57 : decode cX10_atom 57 = .ok (.istore_n 1, 1) := by decide +kernel
theorem dX10_atom_58 : decode cX10_atom 58 = .ok (.aload_n 0, 1) := by decide +kernel
theorem dX10_atom_59 : decode cX10_atom 59 = .ok (.bipush 41, 2) := by decide +kernel
theorem dX10_atom_61 : decode cX10_atom 61 = .ok (.invokevirtual 206, 3) := by decide +kernel
theorem dX10_atom_64 : decode cX10_atom 64 = .ok (.ifCond .ne 7, 3) := by decide +kernel
theorem dX10_atom_67 : decode cX10_atom 67 = .ok (.aload_n 0, 1) := by decide +kernel
theorem dX10_atom_68 : decode cX10_atom 68 = .ok (.invokevirtual 178, 3) := by decide +kernel
theorem dX10_atom_71 : decode cX10_atom 71 = .ok (.aload_n 0, 1) := by decide +kernel
theorem dX10_atom_72 : decode cX10_atom 72 = .ok (.dup, 1) := by decide +kernel
theorem dX10_atom_73 : decode cX10_atom 73 = .ok (.getfield 175, 3) := by decide +kernel
theorem dX10_atom_76 : decode cX10_atom 76 = .ok (.iconst 1, 1) := by decide +kernel
theorem dX10_atom_77 : decode cX10_atom 77 = .ok (.isub, 1) := by decide +kernel
theorem dX10_atom_78 : decode cX10_atom 78 = .ok (.putfield 175, 3) := by decide +kernel
theorem dX10_atom_81 : decode cX10_atom 81 = .ok (.aload_n 0, 1) := by decide +kernel
theorem dX10_atom_82 : decode cX10_atom 82 = .ok (.getfield 164, 3) := by decide +kernel
theorem dX10_atom_85 : decode cX10_atom 85 = .ok (.ifCond .ne 76, 3) := by decide +kernel
theorem dX10_atom_88 : decode cX10_atom 88 = .ok (.aload_n 0, 1) := by decide +kernel
theorem dX10_atom_89 : decode cX10_atom 89 = .ok (.invokevirtual 181, 3) := by decide +kernel
theorem dX10_atom_92 : decode cX10_atom 92 = .ok (.goto 69, 3) := by decide +kernel
theorem dX10_atom_95 : decode cX10_atom 95 = .ok (.aload_n 0, 1) := by decide +kernel
theorem dX10_atom_96 : decode cX10_atom 96 = .ok (.getfield 164, 3) := by decide +kernel
theorem dX10_atom_99 : decode cX10_atom 99 = .ok (.ifCond .ne 24, 3) := by decide +kernel
theorem dX10_atom_102 : decode cX10_atom 102 = .ok (.aload_n 0, 1) := by decide +kernel
theorem dX10_atom_103 : decode cX10_atom 103 = .ok (.getfield 147, 3) := by decide +kernel
theorem dX10_atom_106 : decode cX10_atom 106 = .ok (.iconst 2, 1) := by decide +kernel
theorem dX10_atom_107 : decode cX10_atom 107 = .ok (.if_icmp .ne 16, 3) := by decide +kernel
theorem dX10_atom_110 : decode cX10_atom 110 = .ok (.aload_n 0, 1) := by decide +kernel
theorem dX10_atom_111 : decode cX10_atom 111 = .ok (.getfield 158, 3) := by decide +kernel
theorem dX10_atom_114 : decode cX10_atom 114 = .ok (.l2i, 1) := by decide +kernel
theorem dX10_atom_115 : decode cX10_atom 115 = .ok (.istore_n 1, 1) := by decide +kernel
theorem dX10_atom_116 : decode cX10_atom 116 = .ok (.aload_n 0, 1) := by decide +kernel
theorem dX10_atom_117 : decode cX10_atom 117 = .ok (.invokevirtual 181, 3) := by decide +kernel
theorem dX10_atom_120 : decode cX10_atom 120 = .ok (.goto 41, 3) := by decide +kernel
theorem dX10_atom_123 : decode cX10_atom 123 = .ok (.aload_n 0, 1) := by decide +kernel
theorem dX10_atom_124 : decode cX10_atom 124 = .ok (.getfield 164, 3) := by decide +kernel
theorem dX10_atom_127 : decode cX10_atom 127 = .ok (.ifCond .ne 30, 3) := by decide +kernel
theorem dX10_atom_130 : decode cX10_atom 130 = .ok (.aload_n 0, 1) := by decide +kernel
theorem dX10_atom_131 : decode cX10_atom 131 = .ok (.getfield 147, 3) := by decide +kernel
theorem dX10_atom_134 : decode cX10_atom 134 = .ok (.iconst 1, 1) := by decide +kernel
theorem dX10_atom_135 : decode cX10_atom 135 = .ok (.if_icmp .ne 22, 3) := by decide +kernel
theorem dX10_atom_138 : decode cX10_atom 138 = .ok (.aload_n 0, 1) := by decide +kernel
theorem dX10_atom_139 : decode cX10_atom 139 = .ok (.invokevirtual 220, 3) := by decide +kernel
theorem dX10_atom_142 : decode cX10_atom 142 = .ok (.istore_n 1, 1) := by decide +kernel
theorem dX10_atom_143 : decode cX10_atom 143 = .ok (.aload_n 0, 1) := by decide +kernel
theorem dX10_atom_144 : decode cX10_atom 144 = .ok (.getfield 164, 3) := by decide +kernel
theorem dX10_atom_147 : decode cX10_atom 147 = .ok (.ifCond .ne 14, 3) := by decide +kernel
theorem dX10_atom_150 : decode cX10_atom 150 = .ok (.aload_n 0, 1) := by decide +kernel
theorem dX10_atom_151 : decode cX10_atom 151 = .ok (.invokevirtual 181, 3) := by decide +kernel
theorem dX10_atom_154 : decode cX10_atom 154 = .ok (.goto 7, 3) := by decide +kernel
theorem dX10_atom_157 : decode cX10_atom 157 = .ok (.aload_n 0, 1) := by decide +kernel
theorem dX10_atom_158 : decode cX10_atom 158 = .ok (.invokevirtual 178, 3) := by decide +kernel
theorem dX10_atom_161 : decode cX10_atom 161 = .ok (.iload_n 1, 1) := by decide +kernel
theorem dX10_atom_162 : decode cX10_atom 162 = .ok (.ireturn, 1) := by decide +kernel
theorem dX10_term_0 : decode cX10_term 0 = .ok (.aload_n 0, 1) := by decide +kernel
theorem dX10_term_1 : decode cX10_term 1 = .ok (.invokevirtual 213, 3) := by decide +kernel
theorem dX10_term_4 : decode cX10_term 4 = .ok (.istore_n 1, 1) := by decide +kernel
theorem dX10_term_5 : decode cX10_term 5 = .ok (.aload_n 0, 1) := by decide +kernel
theorem dX10_term_6 : decode cX10_term 6 = .ok (.bipush 42, 2) := by decide +kernel
theorem dX10_term_8 : decode cX10_term 8 = .ok (.invokevirtual 206, 3) := by decide +kernel
theorem dX10_term_11 : decode cX10_term 11 = .ok (.ifCond .eq 17, 3) := by decide +kernel
theorem dX10_term_14 : decode cX10_term 14 = .ok (.aload_n 0, 1) := by decide +kernel
theorem dX10_term_15 : decode cX10_term 15 = .ok (.invokevirtual 181, 3) := by decide +kernel
theorem dX10_term_18 : decode cX10_term 18 = .ok (.iload_n 1, 1) := by decide +kernel
theorem dX10_term_19 : decode cX10_term 19 = .ok (.aload_n 0, 1) := by decide +kernel
theorem dX10_term_20 : decode cX10_term 20 = .ok (.invokevirtual 213, 3) := by decide +kernel
theorem dX10_term_23 : decode cX10_term 23 = .ok (.imul, 1) := by decide +kernel
theorem dX10_term_24 : decode cX10_term 24 = .ok (.istore_n 1, 1) := by decide +kernel
theorem dX10_term_25 : decode cX10_term 25 = .ok (.goto (-20), 3) := by decide +kernel
theorem dX10_term_28 : decode cX10_term 28 = .ok (.iload_n 1, 1) := by decide +kernel
theorem dX10_term_29 : decode cX10_term 29 = .ok (.ireturn, 1) := by decide +kernel
theorem dX10_added_0 : decode cX10_added 0 = .ok (.aload_n 0, 1) := by decide +kernel
theorem dX10_added_1 : decode cX10_added 1 = .ok (.invokevirtual 223, 3) := by decide +kernel
theorem dX10_added_4 : decode cX10_added 4 = .ok (.istore_n 1, 1) := by decide +kernel
theorem dX10_added_5 : decode cX10_added 5 = .ok (.aload_n 0, 1) := by decide +kernel
theorem dX10_added_6 : decode cX10_added 6 = .ok (.bipush 43, 2) := by decide +kernel
theorem dX10_added_8 : decode cX10_added 8 = .ok (.invokevirtual 206, 3) := by decide +kernel
theorem dX10_added_11 : decode cX10_added 11 = .ok (.ifCond .ne 12, 3) := by decide +kernel
theorem dX10_added_14 : decode cX10_added 14 = .ok (.aload_n 0, 1) := by decide +kernel
theorem dX10_added_15 : decode cX10_added 15 = .ok (.bipush 45, 2) := by decide +kernel
theorem dX10_added_17 : decode cX10_added 17 = .ok (.invokevirtual 206, 3) := by decide +kernel
theorem dX10_added_20 : decode cX10_added 20 = .ok (.ifCond .eq 46, 3) := by decide +kernel
theorem dX10_added_23 : decode cX10_added 23 = .ok (.aload_n 0, 1) := by decide +kernel
theorem dX10_added_24 : decode cX10_added 24 = .ok (.getfield 158, 3) := by decide +kernel
theorem dX10_added_27 : decode cX10_added 27 = .ok (.ldc2_w 226, 3) := by decide +kernel
theorem dX10_added_30 : decode cX10_added 30 = .ok (.lcmp, 1) := by decide +kernel
theorem dX10_added_31 : decode cX10_added 31 = .ok (.ifCond .ne 7, 3) := by decide +kernel
theorem dX10_added_34 : decode cX10_added 34 = .ok (.iconst 1, 1) := by decide +kernel
theorem dX10_added_35 : decode cX10_added 35 = .ok (.goto 4, 3) := by decide +kernel
theorem dX10_added_38 : decode cX10_added 38 = .ok (.iconst 0, 1) := by decide +kernel
theorem dX10_added_39 : decode cX10_added 39 = .ok (.istore_n 2, 1) := by decide +kernel
theorem dX10_added_40 : decode cX10_added 40 = .ok (.aload_n 0, 1) := by decide +kernel
theorem dX10_added_41 : decode cX10_added 41 = .ok (.invokevirtual 181, 3) := by decide +kernel
theorem dX10_added_44 : decode cX10_added 44 = .ok (.aload_n 0, 1) := by decide +kernel
theorem dX10_added_45 : decode cX10_added 45 = .ok (.invokevirtual 223, 3) := by decide +kernel
theorem dX10_added_48 : decode cX10_added 48 = .ok (.istore_n 3, 1) := by decide +kernel
theorem dX10_added_49 : decode cX10_added 49 = .ok (.iload_n 2, 1) := by decide +kernel
theorem dX10_added_50 : decode cX10_added 50 = .ok (.ifCond .eq 9, 3) := by decide +kernel
theorem dX10_added_53 : decode cX10_added 53 = .ok (.iload_n 1, 1) := by decide +kernel
theorem dX10_added_54 : decode cX10_added 54 = .ok (.iload_n 3, 1) := by decide +kernel
theorem dX10_added_55 : decode cX10_added 55 = .ok (.iadd, 1) := by decide +kernel
theorem dX10_added_56 : decode cX10_added 56 = .ok (.goto 6, 3) := by decide +kernel
theorem dX10_added_59 : decode cX10_added 59 = .ok (.iload_n 1, 1) := by decide +kernel
theorem dX10_added_60 : decode cX10_added 60 = .ok (.iload_n 3, 1) := by decide +kernel
theorem dX10_added_61 : decode cX10_added 61 = .ok (.isub, 1) := by decide +kernel
theorem dX10_added_62 : decode cX10_added 62 = .ok (.istore_n 1, 1) := by decide +kernel
theorem dX10_added_63 : decode cX10_added 63 = .ok (.goto (-58), 3) := by decide +kernel
theorem dX10_added_66 : decode cX10_added 66 = .ok (.iload_n 1, 1) := by decide +kernel
theorem dX10_added_67 : decode cX10_added 67 = .ok (.ireturn, 1) := by decide +kernel
theorem dX10_not_0 : decode cX10_not 0 = .ok (.aload_n 0, 1) := by decide +kernel
theorem dX10_not_1 : decode cX10_not 1 = .ok (.bipush 110, 2) := by decide +kernel
theorem dX10_not_3 : decode cX10_not 3 = .ok (.bipush 111, 2) := by decide +kernel
theorem dX10_not_5 : decode cX10_not 5 = .ok (.bipush 116, 2) := by decide +kernel
theorem dX10_not_7 : decode cX10_not 7 = .ok (.iconst 0, 1) := by decide +kernel
theorem dX10_not_8 : decode cX10_not 8 = .ok (.iconst 0, 1) := by decide +kernel
theorem dX10_not_9 : decode cX10_not 9 = .ok (.iconst 0, 1) := by decide +kernel
theorem dX10_not_10 : decode cX10_not 10 = .ok (.iconst 0, 1) := by decide +kernel
theorem dX10_not_11 : decode cX10_not 11 = .ok (.iconst 0, 1) := by decide +kernel
theorem dX10_not_12 : decode cX10_not 12 = .ok (.invokevirtual 184, 3) := by decide +kernel
theorem dX10_not_15 : decode cX10_not 15 = .ok (.ifCond .eq 37, 3) := by decide +kernel
theorem dX10_not_18 : decode cX10_not 18 = .ok (.aload_n 0, 1) := by decide +kernel
theorem dX10_not_19 : decode cX10_not 19 = .ok (.invokevirtual 209, 3) := by decide +kernel
theorem dX10_not_22 : decode cX10_not 22 = .ok (.ifCond .ne 5, 3) := by decide +kernel
theorem dX10_not_25 : decode cX10_not 25 = .ok (.iconst 0, 1) := by decide +kernel
theorem dX10_not_26 : decode cX10_not 26 = .ok (.ireturn, 1) := by decide +kernel
theorem dX10_not_27 : decode cX10_not 27 = .ok (.aload_n 0, 1) := by decide +kernel
theorem dX10_not_28 : decode cX10_not 28 = .ok (.invokevirtual 228, 3) := by decide +kernel
theorem dX10_not_31 : decode cX10_not 31 = .ok (.istore_n 1, 1) := by decide +kernel
theorem dX10_not_32 : decode cX10_not 32 = .ok (.aload_n 0, 1) := by decide +kernel
theorem dX10_not_33 : decode cX10_not 33 = .ok (.dup, 1) := by decide +kernel
theorem dX10_not_34 : decode cX10_not 34 = .ok (.getfield 175, 3) := by decide +kernel
theorem dX10_not_37 : decode cX10_not 37 = .ok (.iconst 1, 1) := by decide +kernel
theorem dX10_not_38 : decode cX10_not 38 = .ok (.isub, 1) := by decide +kernel
theorem dX10_not_39 : decode cX10_not 39 = .ok (.putfield 175, 3) := by decide +kernel
theorem dX10_not_42 : decode cX10_not 42 = .ok (.iload_n 1, 1) := by decide +kernel
theorem dX10_not_43 : decode cX10_not 43 = .ok (.ifCond .ne 7, 3) := by decide +kernel
theorem dX10_not_46 : decode cX10_not 46 = .ok (.iconst 1, 1) := by decide +kernel
theorem dX10_not_47 : decode cX10_not 47 = .ok (.goto 4, 3) := by decide +kernel
theorem dX10_not_50 : decode cX10_not 50 = .ok (.iconst 0, 1) := by decide +kernel
theorem dX10_not_51 : decode cX10_not 51 = .ok (.ireturn, 1) := by decide +kernel
theorem dX10_not_52 : decode cX10_not 52 = .ok (.aload_n 0, 1) := by decide +kernel
theorem dX10_not_53 : decode cX10_not 53 = .ok (.invokevirtual 231, 3) := by decide +kernel
theorem dX10_not_56 : decode cX10_not 56 = .ok (.istore_n 1, 1) := by decide +kernel
theorem dX10_not_57 : decode cX10_not 57 = .ok (.aload_n 0, 1) := by decide +kernel
theorem dX10_not_58 : decode cX10_not 58 = .ok (.bipush 60, 2) := by decide +kernel
theorem dX10_not_60 : decode cX10_not 60 = .ok (.invokevirtual 206, 3) := by decide +kernel
theorem dX10_not_63 : decode cX10_not 63 = .ok (.ifCond .ne 14, 3) := by decide +kernel
theorem dX10_not_66 : decode cX10_not 66 = .ok (.aload_n 0, 1) := by decide +kernel
theorem dX10_not_67 : decode cX10_not 67 = .ok (.bipush 61, 2) := by decide +kernel
theorem dX10_not_69 : decode cX10_not 69 = .ok (.invokevirtual 206, 3) := by decide +kernel
theorem dX10_not_72 : decode cX10_not 72 = .ok (.ifCond .ne 5, 3) := by decide +kernel
theorem dX10_not_75 : decode cX10_not 75 = .ok (.iload_n 1, 1) := by decide +kernel
theorem dX10_not_76 : decode cX10_not 76 = .ok (.ireturn, 1) := by decide +kernel
theorem dX10_not_77 : decode cX10_not 77 = .ok (.aload_n 0, 1) := by decide +kernel
theorem dX10_not_78 : decode cX10_not 78 = .ok (.getfield 158, 3) := by decide +kernel
theorem dX10_not_81 : decode cX10_not 81 = .ok (.ldc2_w 234, 3) := by decide +kernel
theorem dX10_not_84 : decode cX10_not 84 = .ok (.lcmp, 1) := by decide +kernel
theorem dX10_not_85 : decode cX10_not 85 = .ok (.ifCond .ne 7, 3) := by decide +kernel
theorem dX10_not_88 : decode cX10_not 88 = .ok (.iconst 1, 1) := by decide +kernel
theorem dX10_not_89 : decode cX10_not 89 = .ok (.goto 4, 3) := by decide +kernel
theorem dX10_not_92 : decode cX10_not 92 = .ok (.iconst 0, 1) := by decide +kernel
theorem dX10_not_93 : decode cX10_not 93 = .ok (.istore_n 2, 1) := by decide +kernel
theorem dX10_not_94 : decode cX10_not 94 = .ok (.aload_n 0, 1) := by decide +kernel
theorem dX10_not_95 : decode cX10_not 95 = .ok (.invokevirtual 181, 3) := by decide +kernel
theorem dX10_not_98 : decode cX10_not 98 = .ok (.aload_n 0, 1) := by decide +kernel
theorem dX10_not_99 : decode cX10_not 99 = .ok (.invokevirtual 231, 3) := by decide +kernel
theorem dX10_not_102 : decode cX10_not 102 = .ok (.istore_n 3, 1) := by decide +kernel
theorem dX10_not_103 : decode cX10_not 103 = .ok (.iload_n 2, 1) := by decide +kernel
theorem dX10_not_104 : decode cX10_not 104 = .ok (.ifCond .eq 11, 3) := by decide +kernel
theorem dX10_not_107 : decode cX10_not 107 = .ok (.iload_n 1, 1) := by decide +kernel
theorem dX10_not_108 : decode cX10_not 108 = .ok (.iload_n 3, 1) := by decide +kernel
theorem dX10_not_109 : decode cX10_not 109 = .ok (.if_icmp .ge 15, 3) := by decide +kernel
theorem dX10_not_112 : decode cX10_not 112 = .ok (.goto 8, 3) := by decide +kernel
theorem dX10_not_115 : decode cX10_not 115 = .ok (.iload_n 1, 1) := by decide +kernel
theorem dX10_not_116 : decode cX10_not 116 = .ok (.iload_n 3, 1) := by decide +kernel
theorem dX10_not_117 : decode cX10_not 117 = .ok (.if_icmp .ne 7, 3) := by decide +kernel
theorem dX10_not_120 : decode cX10_not 120 = .ok (.iconst 1, 1) := by decide +kernel
theorem dX10_not_121 : decode cX10_not 121 = .ok (.goto 4, 3) := by decide +kernel
theorem dX10_not_124 : decode cX10_not 124 = .ok (.iconst 0, 1) := by decide +kernel
theorem dX10_not_125 : decode cX10_not 125 = .ok (.ireturn, 1) := by decide +kernel
theorem dX10_both_0 : decode cX10_both 0 = .ok (.aload_n 0, 1) := by decide +kernel
theorem dX10_both_1 : decode cX10_both 1 = .ok (.invokevirtual 228, 3) := by decide +kernel
theorem dX10_both_4 : decode cX10_both 4 = .ok (.istore_n 1, 1) := by decide +kernel
theorem dX10_both_5 : decode cX10_both 5 = .ok (.aload_n 0, 1) := by decide +kernel
theorem dX10_both_6 : decode cX10_both 6 = .ok (.bipush 97, 2) := by decide +kernel
theorem dX10_both_8 : decode cX10_both 8 = .ok (.bipush 110, 2) := by decide +kernel
theorem dX10_both_10 : decode cX10_both 10 = .ok (.bipush 100, 2) := by decide +kernel
theorem dX10_both_12 : decode cX10_both 12 = .ok (.iconst 0, 1) := by decide +kernel
theorem dX10_both_13 : decode cX10_both 13 = .ok (.iconst 0, 1) := by decide +kernel
theorem dX10_both_14 : decode cX10_both 14 = .ok (.iconst 0, 1) := by decide +kernel
theorem dX10_both_15 : decode cX10_both 15 = .ok (.iconst 0, 1) := by decide +kernel
theorem dX10_both_16 : decode cX10_both 16 = .ok (.iconst 0, 1) := by decide +kernel
theorem dX10_both_17 : decode cX10_both 17 = .ok (.invokevirtual 184, 3) := by decide +kernel
theorem dX10_both_20 : decode cX10_both 20 = .ok (.ifCond .eq 29, 3) := by decide +kernel
theorem dX10_both_23 : decode cX10_both 23 = .ok (.aload_n 0, 1) := by decide +kernel
theorem dX10_both_24 : decode cX10_both 24 = .ok (.invokevirtual 181, 3) := by decide +kernel
theorem dX10_both_27 : decode cX10_both 27 = .ok (.aload_n 0, 1) := by decide +kernel
theorem dX10_both_28 : decode cX10_both 28 = .ok (.invokevirtual 228, 3) := by decide +kernel
theorem dX10_both_31 : decode cX10_both 31 = .ok (.istore_n 2, 1) := by decide +kernel
theorem dX10_both_32 : decode cX10_both 32 = .ok (.iload_n 1, 1) := by decide +kernel
theorem dX10_both_33 : decode cX10_both 33 = .ok (.ifCond .eq 11, 3) := by decide +kernel
theorem dX10_both_36 : decode cX10_both 36 = .ok (.iload_n 2, 1) := by decide +kernel
theorem dX10_both_37 : decode cX10_both 37 = .ok (.ifCond .eq 7, 3) := by decide +kernel
theorem dX10_both_40 : decode cX10_both 40 = .ok (.iconst 1, 1) := by decide +kernel
theorem dX10_both_41 : decode cX10_both 41 = .ok (.goto 4, 3) := by decide +kernel
theorem dX10_both_44 : decode cX10_both 44 = .ok (.iconst 0, 1) := by decide +kernel
theorem dX10_both_45 : decode cX10_both 45 = .ok (.istore_n 1, 1) := by decide +kernel
theorem dX10_both_46 : decode cX10_both 46 = .ok (.goto (-41), 3) := by decide +kernel
theorem dX10_both_49 : decode cX10_both 49 = .ok (.iload_n 1, 1) := by decide +kernel
theorem dX10_both_50 : decode cX10_both 50 = .ok (.ireturn, 1) := by decide +kernel
theorem dX10_either_0 : decode cX10_either 0 = .ok (.aload_n 0, 1) := by decide +kernel
theorem dX10_either_1 : decode cX10_either 1 = .ok (.invokevirtual 236, 3) := by decide +kernel
theorem dX10_either_4 : decode cX10_either 4 = .ok (.istore_n 1, 1) := by decide +kernel
theorem dX10_either_5 : decode cX10_either 5 = .ok (.aload_n 0, 1) := by decide +kernel
theorem dX10_either_6 : decode cX10_either 6 = .ok (.bipush 111, 2) := by decide +kernel
theorem dX10_either_8 : decode cX10_either 8 = .ok (.bipush 114, 2) := by decide +kernel
theorem dX10_either_10 : decode cX10_either 10 = .ok (.iconst 0, 1) := by decide +kernel
theorem dX10_either_11 : decode cX10_either 11 = .ok (.iconst 0, 1) := by decide +kernel
theorem dX10_either_12 : decode cX10_either 12 = .ok (.iconst 0, 1) := by decide +kernel
theorem dX10_either_13 : decode cX10_either 13 = .ok (.iconst 0, 1) := by decide +kernel
theorem dX10_either_14 : decode cX10_either 14 = .ok (.iconst 0, 1) := by decide +kernel
theorem dX10_either_15 : decode cX10_either 15 = .ok (.iconst 0, 1) := by decide +kernel
theorem dX10_either_16 : decode cX10_either 16 = .ok (.invokevirtual 184, 3) := by decide +kernel
theorem dX10_either_19 : decode cX10_either 19 = .ok (.ifCond .eq 29, 3) := by decide +kernel
theorem dX10_either_22 : decode cX10_either 22 = .ok (.aload_n 0, 1) := by decide +kernel
theorem dX10_either_23 : decode cX10_either 23 = .ok (.invokevirtual 181, 3) := by decide +kernel
theorem dX10_either_26 : decode cX10_either 26 = .ok (.aload_n 0, 1) := by decide +kernel
theorem dX10_either_27 : decode cX10_either 27 = .ok (.invokevirtual 236, 3) := by decide +kernel
theorem dX10_either_30 : decode cX10_either 30 = .ok (.istore_n 2, 1) := by decide +kernel
theorem dX10_either_31 : decode cX10_either 31 = .ok (.iload_n 1, 1) := by decide +kernel
theorem dX10_either_32 : decode cX10_either 32 = .ok (.ifCond .ne 7, 3) := by decide +kernel
theorem dX10_either_35 : decode cX10_either 35 = .ok (.iload_n 2, 1) := by decide +kernel
theorem dX10_either_36 : decode cX10_either 36 = .ok (.ifCond .eq 7, 3) := by decide +kernel
theorem dX10_either_39 : decode cX10_either 39 = .ok (.iconst 1, 1) := by decide +kernel
theorem dX10_either_40 : decode cX10_either 40 = .ok (.goto 4, 3) := by decide +kernel
theorem dX10_either_43 : decode cX10_either 43 = .ok (.iconst 0, 1) := by decide +kernel
theorem dX10_either_44 : decode cX10_either 44 = .ok (.istore_n 1, 1) := by decide +kernel
theorem dX10_either_45 : decode cX10_either 45 = .ok (.goto (-40), 3) := by decide +kernel
theorem dX10_either_48 : decode cX10_either 48 = .ok (.iload_n 1, 1) := by decide +kernel
theorem dX10_either_49 : decode cX10_either 49 = .ok (.ireturn, 1) := by decide +kernel
theorem dX10_part_0 : decode cX10_part 0 = .ok (.iload_n 1, 1) := by decide +kernel
theorem dX10_part_1 : decode cX10_part 1 = .ok (.ifCond .ne 7, 3) := by decide +kernel
theorem dX10_part_4 : decode cX10_part 4 = .ok (.aload_n 0, 1) := by decide +kernel
theorem dX10_part_5 : decode cX10_part 5 = .ok (.invokevirtual 178, 3) := by decide +kernel
theorem dX10_part_8 : decode cX10_part 8 = .ok (.aload_n 0, 1) := by decide +kernel
theorem dX10_part_9 : decode cX10_part 9 = .ok (.getfield 164, 3) := by decide +kernel
theorem dX10_part_12 : decode cX10_part 12 = .ok (.ifCond .ne 7, 3) := by decide +kernel
theorem dX10_part_15 : decode cX10_part 15 = .ok (.aload_n 0, 1) := by decide +kernel
theorem dX10_part_16 : decode cX10_part 16 = .ok (.invokevirtual 181, 3) := by decide +kernel
theorem dX10_part_19 : decode cX10_part 19 = .ok (.aload_n 0, 1) := by decide +kernel
theorem dX10_part_20 : decode cX10_part 20 = .ok (.getfield 164, 3) := by decide +kernel
theorem dX10_part_23 : decode cX10_part 23 = .ok (.ifCond .eq 7, 3) := by decide +kernel
theorem dX10_part_26 : decode cX10_part 26 = .ok (.iconst 0, 1) := by decide +kernel
theorem dX10_part_27 : decode cX10_part 27 = .ok (.goto 7, 3) := by decide +kernel
theorem dX10_part_30 : decode cX10_part 30 = .ok (.aload_n 0, 1) := by decide +kernel
theorem dX10_part_31 : decode cX10_part 31 = .ok (.invokevirtual 217, 3) := by decide +kernel
theorem dX10_part_34 : decode cX10_part 34 = .ok (.istore_n 2, 1) := by decide +kernel
theorem dX10_part_35 : decode cX10_part 35 = .ok (.aload_n 0, 1) := by decide +kernel
theorem dX10_part_36 : decode cX10_part 36 = .ok (.bipush 59, 2) := by decide +kernel
theorem dX10_part_38 : decode cX10_part 38 = .ok (.invokevirtual 206, 3) := by decide +kernel
theorem dX10_part_41 : decode cX10_part 41 = .ok (.ifCond .ne 7, 3) := by decide +kernel
theorem dX10_part_44 : decode cX10_part 44 = .ok (.aload_n 0, 1) := by decide +kernel
theorem dX10_part_45 : decode cX10_part 45 = .ok (.invokevirtual 178, 3) := by decide +kernel
theorem dX10_part_48 : decode cX10_part 48 = .ok (.aload_n 0, 1) := by decide +kernel
theorem dX10_part_49 : decode cX10_part 49 = .ok (.getfield 164, 3) := by decide +kernel
theorem dX10_part_52 : decode cX10_part 52 = .ok (.ifCond .ne 7, 3) := by decide +kernel
theorem dX10_part_55 : decode cX10_part 55 = .ok (.aload_n 0, 1) := by decide +kernel
theorem dX10_part_56 : decode cX10_part 56 = .ok (.invokevirtual 181, 3) := by decide +kernel
theorem dX10_part_59 : decode cX10_part 59 = .ok (.iload_n 2, 1) := by decide +kernel
theorem dX10_part_60 : decode cX10_part 60 = .ok (.ireturn, 1) := by decide +kernel
theorem dX10_read_0 : decode cX10_read 0 = .ok (.aload_n 0, 1) := by decide +kernel
theorem dX10_read_1 : decode cX10_read 1 = .ok (.sipush 160, 3) := by decide +kernel
theorem dX10_read_4 : decode cX10_read 4 = .ok (.iload_n 1, 1) := by decide +kernel
theorem dX10_read_5 : decode cX10_read 5 = .ok (.imul, 1) := by decide +kernel
theorem dX10_read_6 : decode cX10_read 6 = .ok (.putfield 135, 3) := by decide +kernel
theorem dX10_read_9 : decode cX10_read 9 = .ok (.aload_n 0, 1) := by decide +kernel
theorem dX10_read_10 : decode cX10_read 10 = .ok (.aload_n 0, 1) := by decide +kernel
theorem dX10_read_11 : decode cX10_read 11 = .ok (.getfield 17, 3) := by decide +kernel
theorem dX10_read_14 : decode cX10_read 14 = .ok (.iload_n 1, 1) := by decide +kernel
theorem dX10_read_15 : decode cX10_read 15 = .ok (.iaload, 1) := by decide +kernel
theorem dX10_read_16 : decode cX10_read 16 = .ok (.putfield 132, 3) := by decide +kernel
theorem dX10_read_19 : decode cX10_read 19 = .ok (.aload_n 0, 1) := by decide +kernel
theorem dX10_read_20 : decode cX10_read 20 = .ok (.iconst 0, 1) := by decide +kernel
theorem dX10_read_21 : decode cX10_read 21 = .ok (.putfield 138, 3) := by decide +kernel
theorem dX10_read_24 : decode cX10_read 24 = .ok (.aload_n 0, 1) := by decide +kernel
theorem dX10_read_25 : decode cX10_read 25 = .ok (.iconst 0, 1) := by decide +kernel
theorem dX10_read_26 : decode cX10_read 26 = .ok (.putfield 175, 3) := by decide +kernel
theorem dX10_read_29 : decode cX10_read 29 = .ok (.aload_n 0, 1) := by decide +kernel
theorem dX10_read_30 : decode cX10_read 30 = .ok (.iconst 0, 1) := by decide +kernel
theorem dX10_read_31 : decode cX10_read 31 = .ok (.putfield 164, 3) := by decide +kernel
theorem dX10_read_34 : decode cX10_read 34 = .ok (.aload_n 0, 1) := by decide +kernel
theorem dX10_read_35 : decode cX10_read 35 = .ok (.invokevirtual 181, 3) := by decide +kernel
theorem dX10_read_38 : decode cX10_read 38 = .ok (.aload_n 0, 1) := by decide +kernel
theorem dX10_read_39 : decode cX10_read 39 = .ok (.aload_n 0, 1) := by decide +kernel
theorem dX10_read_40 : decode cX10_read 40 = .ok (.bipush 116, 2) := by decide +kernel
theorem dX10_read_42 : decode cX10_read 42 = .ok (.bipush 117, 2) := by decide +kernel
theorem dX10_read_44 : decode cX10_read 44 = .ok (.bipush 114, 2) := by decide +kernel
theorem dX10_read_46 : decode cX10_read 46 = .ok (.bipush 110, 2) := by decide +kernel
theorem dX10_read_48 : decode cX10_read 48 = .ok (.bipush 115, 2) := by decide +kernel
theorem dX10_read_50 : decode cX10_read 50 = .ok (.iconst 0, 1) := by decide +kernel
theorem dX10_read_51 : decode cX10_read 51 = .ok (.iconst 0, 1) := by decide +kernel
theorem dX10_read_52 : decode cX10_read 52 = .ok (.iconst 0, 1) := by decide +kernel
theorem dX10_read_53 : decode cX10_read 53 = .ok (.invokevirtual 184, 3) := by decide +kernel
theorem dX10_read_56 : decode cX10_read 56 = .ok (.invokevirtual 239, 3) := by decide +kernel
theorem dX10_read_59 : decode cX10_read 59 = .ok (.istore_n 3, 1) := by decide +kernel
theorem dX10_read_60 : decode cX10_read 60 = .ok (.aload_n 0, 1) := by decide +kernel
theorem dX10_read_61 : decode cX10_read 61 = .ok (.getfield 164, 3) := by decide +kernel
theorem dX10_read_64 : decode cX10_read 64 = .ok (.ifCond .eq 7, 3) := by decide +kernel
theorem dX10_read_67 : decode cX10_read 67 = .ok (.iconst 0, 1) := by decide +kernel
theorem dX10_read_68 : decode cX10_read 68 = .ok (.goto 24, 3) := by decide +kernel
theorem dX10_read_71 : decode cX10_read 71 = .ok (.aload_n 0, 1) := by decide +kernel
theorem dX10_read_72 : decode cX10_read 72 = .ok (.aload_n 0, 1) := by decide +kernel
theorem dX10_read_73 : decode cX10_read 73 = .ok (.bipush 99, 2) := by decide +kernel
theorem dX10_read_75 : decode cX10_read 75 = .ok (.bipush 111, 2) := by decide +kernel
theorem dX10_read_77 : decode cX10_read 77 = .ok (.bipush 115, 2) := by decide +kernel
theorem dX10_read_79 : decode cX10_read 79 = .ok (.bipush 116, 2) := by decide +kernel
theorem dX10_read_81 : decode cX10_read 81 = .ok (.bipush 115, 2) := by decide +kernel
theorem dX10_read_83 : decode cX10_read 83 = .ok (.iconst 0, 1) := by decide +kernel
theorem dX10_read_84 : decode cX10_read 84 = .ok (.iconst 0, 1) := by decide +kernel
theorem dX10_read_85 : decode cX10_read 85 = .ok (.iconst 0, 1) := by decide +kernel
theorem dX10_read_86 : decode cX10_read 86 = .ok (.invokevirtual 184, 3) := by decide +kernel
theorem dX10_read_89 : decode cX10_read 89 = .ok (.invokevirtual 239, 3) := by decide +kernel
theorem dX10_read_92 : decode cX10_read 92 = .ok (.istore 4, 2) := by decide +kernel
theorem dX10_read_94 : decode cX10_read 94 = .ok (.aload_n 0, 1) := by decide +kernel
theorem dX10_read_95 : decode cX10_read 95 = .ok (.getfield 164, 3) := by decide +kernel
theorem dX10_read_98 : decode cX10_read 98 = .ok (.ifCond .eq 7, 3) := by decide +kernel
theorem dX10_read_101 : decode cX10_read 101 = .ok (.iconst 0, 1) := by decide +kernel
theorem dX10_read_102 : decode cX10_read 102 = .ok (.goto 24, 3) := by decide +kernel
theorem dX10_read_105 : decode cX10_read 105 = .ok (.aload_n 0, 1) := by decide +kernel
theorem dX10_read_106 : decode cX10_read 106 = .ok (.aload_n 0, 1) := by decide +kernel
theorem dX10_read_107 : decode cX10_read 107 = .ok (.bipush 108, 2) := by decide +kernel
theorem dX10_read_109 : decode cX10_read 109 = .ok (.bipush 97, 2) := by decide +kernel
theorem dX10_read_111 : decode cX10_read 111 = .ok (.bipush 115, 2) := by decide +kernel
theorem dX10_read_113 : decode cX10_read 113 = .ok (.bipush 116, 2) := by decide +kernel
theorem dX10_read_115 : decode cX10_read 115 = .ok (.bipush 115, 2) := by decide +kernel
theorem dX10_read_117 : decode cX10_read 117 = .ok (.iconst 0, 1) := by decide +kernel
theorem dX10_read_118 : decode cX10_read 118 = .ok (.iconst 0, 1) := by decide +kernel
theorem dX10_read_119 : decode cX10_read 119 = .ok (.iconst 0, 1) := by decide +kernel
theorem dX10_read_120 : decode cX10_read 120 = .ok (.invokevirtual 184, 3) := by decide +kernel
theorem dX10_read_123 : decode cX10_read 123 = .ok (.invokevirtual 239, 3) := by decide +kernel
theorem dX10_read_126 : decode cX10_read 126 = .ok (.istore 5, 2) := by decide +kernel
theorem dX10_read_128 : decode cX10_read 128 = .ok (.aload_n 0, 1) := by decide +kernel
theorem dX10_read_129 : decode cX10_read 129 = .ok (.getfield 164, 3) := by decide +kernel
theorem dX10_read_132 : decode cX10_read 132 = .ok (.ifCond .ne 14, 3) := by decide +kernel
theorem dX10_read_135 : decode cX10_read 135 = .ok (.aload_n 0, 1) := by decide +kernel
theorem dX10_read_136 : decode cX10_read 136 = .ok (.getfield 147, 3) := by decide +kernel
theorem dX10_read_139 : decode cX10_read 139 = .ok (.ifCond .eq 7, 3) := by decide +kernel
theorem dX10_read_142 : decode cX10_read 142 = .ok (.aload_n 0, 1) := by decide +kernel
theorem dX10_read_143 : decode cX10_read 143 = .ok (.invokevirtual 178, 3) := by decide +kernel
theorem dX10_read_146 : decode cX10_read 146 = .ok (.iload_n 2, 1) := by decide +kernel
theorem dX10_read_147 : decode cX10_read 147 = .ok (.ifCond .ne 7, 3) := by decide +kernel
theorem dX10_read_150 : decode cX10_read 150 = .ok (.iload_n 3, 1) := by decide +kernel
theorem dX10_read_151 : decode cX10_read 151 = .ok (.goto 15, 3) := by decide +kernel
theorem dX10_read_154 : decode cX10_read 154 = .ok (.iload_n 2, 1) := by decide +kernel
theorem dX10_read_155 : decode cX10_read 155 = .ok (.iconst 1, 1) := by decide +kernel
theorem dX10_read_156 : decode cX10_read 156 = .ok (.if_icmp .ne 8, 3) := by decide +kernel
theorem dX10_read_159 : decode cX10_read 159 = .ok (.iload 4, 2) := by decide +kernel
theorem dX10_read_161 : decode cX10_read 161 = .ok (.goto 5, 3) := by decide +kernel
theorem dX10_read_164 : decode cX10_read 164 = .ok (.iload 5, 2) := by decide +kernel
theorem dX10_read_166 : decode cX10_read 166 = .ok (.ireturn, 1) := by decide +kernel
theorem dX10_text_0 : decode cX10_text 0 = .ok (.aload_n 0, 1) := by decide +kernel
theorem dX10_text_1 : decode cX10_text 1 = .ok (.getfield 73, 3) := by decide +kernel
theorem dX10_text_4 : decode cX10_text 4 = .ok (.bipush 6, 2) := by decide +kernel
theorem dX10_text_6 : decode cX10_text 6 = .ok (.if_icmp .ne 6, 3) := by decide +kernel
theorem dX10_text_9 : decode cX10_text 9 = .ok (.bipush (-4), 2) := by decide +kernel
theorem dX10_text_11 : decode cX10_text 11 = .ok (.ireturn, 1) := by decide +kernel
theorem dX10_text_12 : decode cX10_text 12 = .ok (.iconst 0, 1) := by decide +kernel
theorem dX10_text_13 : decode cX10_text 13 = .ok (.istore_n 1, 1) := by decide +kernel
theorem dX10_text_14 : decode cX10_text 14 = .ok (.iload_n 1, 1) := by decide +kernel
theorem dX10_text_15 : decode cX10_text 15 = .ok (.aload_n 0, 1) := by decide +kernel
theorem dX10_text_16 : decode cX10_text 16 = .ok (.getfield 129, 3) := by decide +kernel
theorem dX10_text_19 : decode cX10_text 19 = .ok (.if_icmp .ge 30, 3) := by decide +kernel
theorem dX10_text_22 : decode cX10_text 22 = .ok (.aload_n 0, 1) := by decide +kernel
theorem dX10_text_23 : decode cX10_text 23 = .ok (.getfield 13, 3) := by decide +kernel
theorem dX10_text_26 : decode cX10_text 26 = .ok (.sipush 160, 3) := by decide +kernel
theorem dX10_text_29 : decode cX10_text 29 = .ok (.aload_n 0, 1) := by decide +kernel
theorem dX10_text_30 : decode cX10_text 30 = .ok (.getfield 73, 3) := by decide +kernel
theorem dX10_text_33 : decode cX10_text 33 = .ok (.imul, 1) := by decide +kernel
theorem dX10_text_34 : decode cX10_text 34 = .ok (.iload_n 1, 1) := by decide +kernel
theorem dX10_text_35 : decode cX10_text 35 = .ok (.iadd, 1) := by decide +kernel
theorem dX10_text_36 : decode cX10_text 36 = .ok (.aload_n 0, 1) := by decide +kernel
theorem dX10_text_37 : decode cX10_text 37 = .ok (.getfield 20, 3) := by decide +kernel
theorem dX10_text_40 : decode cX10_text 40 = .ok (.iload_n 1, 1) := by decide +kernel
theorem dX10_text_41 : decode cX10_text 41 = .ok (.iaload, 1) := by decide +kernel
theorem dX10_text_42 : decode cX10_text 42 = .ok (.iastore, 1) := by decide +kernel
theorem dX10_text_43 : decode cX10_text 43 = .ok (.iinc 1 1, 3) := by decide +kernel
theorem dX10_text_46 : decode cX10_text 46 = .ok (.goto (-32), 3) := by decide +kernel
theorem dX10_text_49 : decode cX10_text 49 = .ok (.aload_n 0, 1) := by decide +kernel
theorem dX10_text_50 : decode cX10_text 50 = .ok (.getfield 17, 3) := by decide +kernel
theorem dX10_text_53 : decode cX10_text 53 = .ok (.aload_n 0, 1) := by decide +kernel
theorem dX10_text_54 : decode cX10_text 54 = .ok (.getfield 73, 3) := by decide +kernel
theorem dX10_text_57 : decode cX10_text 57 = .ok (.aload_n 0, 1) := by decide +kernel
theorem dX10_text_58 : decode cX10_text 58 = .ok (.getfield 129, 3) := by decide +kernel
theorem dX10_text_61 : decode cX10_text 61 = .ok (.iastore, 1) := by decide +kernel
theorem dX10_text_62 : decode cX10_text 62 = .ok (.aload_n 0, 1) := by decide +kernel
theorem dX10_text_63 : decode cX10_text 63 = .ok (.iconst 0, 1) := by decide +kernel
theorem dX10_text_64 : decode cX10_text 64 = .ok (.putfield 129, 3) := by decide +kernel
theorem dX10_text_67 : decode cX10_text 67 = .ok (.aload_n 0, 1) := by decide +kernel
theorem dX10_text_68 : decode cX10_text 68 = .ok (.aload_n 0, 1) := by decide +kernel
theorem dX10_text_69 : decode cX10_text 69 = .ok (.getfield 73, 3) := by decide +kernel
theorem dX10_text_72 : decode cX10_text 72 = .ok (.iconst 0, 1) := by decide +kernel
theorem dX10_text_73 : decode cX10_text 73 = .ok (.invokevirtual 243, 3) := by decide +kernel
theorem dX10_text_76 : decode cX10_text 76 = .ok (.istore_n 1, 1) := by decide +kernel
theorem dX10_text_77 : decode cX10_text 77 = .ok (.aload_n 0, 1) := by decide +kernel
theorem dX10_text_78 : decode cX10_text 78 = .ok (.getfield 164, 3) := by decide +kernel
theorem dX10_text_81 : decode cX10_text 81 = .ok (.ifCond .eq 11, 3) := by decide +kernel
theorem dX10_text_84 : decode cX10_text 84 = .ok (.bipush (-100), 2) := by decide +kernel
theorem dX10_text_86 : decode cX10_text 86 = .ok (.aload_n 0, 1) := by decide +kernel
theorem dX10_text_87 : decode cX10_text 87 = .ok (.getfield 168, 3) := by decide +kernel
theorem dX10_text_90 : decode cX10_text 90 = .ok (.isub, 1) := by decide +kernel
theorem dX10_text_91 : decode cX10_text 91 = .ok (.ireturn, 1) := by decide +kernel
theorem dX10_text_92 : decode cX10_text 92 = .ok (.aload_n 0, 1) := by decide +kernel
theorem dX10_text_93 : decode cX10_text 93 = .ok (.dup, 1) := by decide +kernel
theorem dX10_text_94 : decode cX10_text 94 = .ok (.getfield 73, 3) := by decide +kernel
theorem dX10_text_97 : decode cX10_text 97 = .ok (.iconst 1, 1) := by decide +kernel
theorem dX10_text_98 : decode cX10_text 98 = .ok (.iadd, 1) := by decide +kernel
theorem dX10_text_99 : decode cX10_text 99 = .ok (.putfield 73, 3) := by decide +kernel
theorem dX10_text_102 : decode cX10_text 102 = .ok (.aload_n 0, 1) := by decide +kernel
theorem dX10_text_103 : decode cX10_text 103 = .ok (.getfield 73, 3) := by decide +kernel
theorem dX10_text_106 : decode cX10_text 106 = .ok (.iconst 1, 1) := by decide +kernel
theorem dX10_text_107 : decode cX10_text 107 = .ok (.isub, 1) := by decide +kernel
theorem dX10_text_108 : decode cX10_text 108 = .ok (.ireturn, 1) := by decide +kernel
theorem dX10_force_0 : decode cX10_force 0 = .ok (.iload_n 1, 1) := by decide +kernel
theorem dX10_force_1 : decode cX10_force 1 = .ok (.i2l, 1) := by decide +kernel
theorem dX10_force_2 : decode cX10_force 2 = .ok (.lconst 0, 1) := by decide +kernel
theorem dX10_force_3 : decode cX10_force 3 = .ok (.aload_n 0, 1) := by decide +kernel
theorem dX10_force_4 : decode cX10_force 4 = .ok (.getfield 73, 3) := by decide +kernel
theorem dX10_force_7 : decode cX10_force 7 = .ok (.iconst 1, 1) := by decide +kernel
theorem dX10_force_8 : decode cX10_force 8 = .ok (.isub, 1) := by decide +kernel
theorem dX10_force_9 : decode cX10_force 9 = .ok (.i2l, 1) := by decide +kernel
theorem dX10_force_10 : decode cX10_force 10 = .ok (.invokestatic 79, 3) := by decide +kernel
theorem dX10_force_13 : decode cX10_force 13 = .ok (.ifCond .ne 6, 3) := by decide +kernel
theorem dX10_force_16 : decode cX10_force 16 = .ok (.bipush (-2), 2) := by decide +kernel
theorem dX10_force_18 : decode cX10_force 18 = .ok (.ireturn, 1) := by decide +kernel
theorem dX10_force_19 : decode cX10_force 19 = .ok (.aload_n 0, 1) := by decide +kernel
theorem dX10_force_20 : decode cX10_force 20 = .ok (.getfield 104, 3) := by decide +kernel
theorem dX10_force_23 : decode cX10_force 23 = .ok (.istore_n 2, 1) := by decide +kernel
theorem dX10_force_24 : decode cX10_force 24 = .ok (.aload_n 0, 1) := by decide +kernel
theorem dX10_force_25 : decode cX10_force 25 = .ok (.iload_n 1, 1) := by decide +kernel
theorem dX10_force_26 : decode cX10_force 26 = .ok (.putfield 104, 3) := by decide +kernel
theorem dX10_force_29 : decode cX10_force 29 = .ok (.iload_n 2, 1) := by decide +kernel
theorem dX10_force_30 : decode cX10_force 30 = .ok (.ireturn, 1) := by decide +kernel
theorem dX10_roomNow_0 : decode cX10_roomNow 0 = .ok (.aload_n 0, 1) := by decide +kernel
theorem dX10_roomNow_1 : decode cX10_roomNow 1 = .ok (.getfield 23, 3) := by decide +kernel
theorem dX10_roomNow_4 : decode cX10_roomNow 4 = .ok (.istore_n 1, 1) := by decide +kernel
theorem dX10_roomNow_5 : decode cX10_roomNow 5 = .ok (.iconst 0, 1) := by decide +kernel
theorem dX10_roomNow_6 : decode cX10_roomNow 6 = .ok (.istore_n 2, 1) := by decide +kernel
theorem dX10_roomNow_7 : decode cX10_roomNow 7 = .ok (.iload_n 2, 1) := by decide +kernel
theorem dX10_roomNow_8 : decode cX10_roomNow 8 = .ok (.aload_n 0, 1) := by decide +kernel
theorem dX10_roomNow_9 : decode cX10_roomNow 9 = .ok (.getfield 246, 3) := by decide +kernel
theorem dX10_roomNow_12 : decode cX10_roomNow 12 = .ok (.if_icmp .ge 22, 3) := by decide +kernel
theorem dX10_roomNow_15 : decode cX10_roomNow 15 = .ok (.iload_n 1, 1) := by decide +kernel
theorem dX10_roomNow_16 : decode cX10_roomNow 16 = .ok (.aload_n 0, 1) := by decide +kernel
theorem dX10_roomNow_17 : decode cX10_roomNow 17 = .ok (.aload_n 0, 1) := by decide +kernel
theorem dX10_roomNow_18 : decode cX10_roomNow 18 = .ok (.getfield 32, 3) := by decide +kernel
theorem dX10_roomNow_21 : decode cX10_roomNow 21 = .ok (.iload_n 2, 1) := by decide +kernel
theorem dX10_roomNow_22 : decode cX10_roomNow 22 = .ok (.iaload, 1) := by decide +kernel
theorem dX10_roomNow_23 : decode cX10_roomNow 23 = .ok (.invokevirtual 111, 3) := by decide +kernel
theorem dX10_roomNow_26 : decode cX10_roomNow 26 = .ok (.isub, 1) := by decide +kernel
theorem dX10_roomNow_27 : decode cX10_roomNow 27 = .ok (.istore_n 1, 1) := by decide +kernel
theorem dX10_roomNow_28 : decode cX10_roomNow 28 = .ok (.iinc 2 1, 3) := by decide +kernel
theorem dX10_roomNow_31 : decode cX10_roomNow 31 = .ok (.goto (-24), 3) := by decide +kernel
theorem dX10_roomNow_34 : decode cX10_roomNow 34 = .ok (.iload_n 1, 1) := by decide +kernel
theorem dX10_roomNow_35 : decode cX10_roomNow 35 = .ok (.ireturn, 1) := by decide +kernel
theorem dX10_lastAngle_0 : decode cX10_lastAngle 0 = .ok (.aload_n 0, 1) := by decide +kernel
theorem dX10_lastAngle_1 : decode cX10_lastAngle 1 = .ok (.getfield 246, 3) := by decide +kernel
theorem dX10_lastAngle_4 : decode cX10_lastAngle 4 = .ok (.ifCond .ne 10, 3) := by decide +kernel
theorem dX10_lastAngle_7 : decode cX10_lastAngle 7 = .ok (.aload_n 0, 1) := by decide +kernel
theorem dX10_lastAngle_8 : decode cX10_lastAngle 8 = .ok (.getfield 101, 3) := by decide +kernel
theorem dX10_lastAngle_11 : decode cX10_lastAngle 11 = .ok (.goto 14, 3) := by decide +kernel
theorem dX10_lastAngle_14 : decode cX10_lastAngle 14 = .ok (.aload_n 0, 1) := by decide +kernel
theorem dX10_lastAngle_15 : decode cX10_lastAngle 15 = .ok (.getfield 35, 3) := by decide +kernel
theorem dX10_lastAngle_18 : decode cX10_lastAngle 18 = .ok (.aload_n 0, 1) := by decide +kernel
theorem dX10_lastAngle_19 : decode cX10_lastAngle 19 = .ok (.getfield 246, 3) := by decide +kernel
theorem dX10_lastAngle_22 : decode cX10_lastAngle 22 = .ok (.iconst 1, 1) := by decide +kernel
theorem dX10_lastAngle_23 : decode cX10_lastAngle 23 = .ok (.isub, 1) := by decide +kernel
theorem dX10_lastAngle_24 : decode cX10_lastAngle 24 = .ok (.iaload, 1) := by decide +kernel
theorem dX10_lastAngle_25 : decode cX10_lastAngle 25 = .ok (.ireturn, 1) := by decide +kernel
theorem dX10_looks_0 : decode cX10_looks 0 = .ok (.aload_n 0, 1) := by decide +kernel
theorem dX10_looks_1 : decode cX10_looks 1 = .ok (.aload_n 0, 1) := by decide +kernel
theorem dX10_looks_2 : decode cX10_looks 2 = .ok (.getfield 246, 3) := by decide +kernel
theorem dX10_looks_5 : decode cX10_looks 5 = .ok (.putfield 188, 3) := by decide +kernel
theorem dX10_looks_8 : decode cX10_looks 8 = .ok (.aload_n 0, 1) := by decide +kernel
theorem dX10_looks_9 : decode cX10_looks 9 = .ok (.aload_n 0, 1) := by decide +kernel
theorem dX10_looks_10 : decode cX10_looks 10 = .ok (.getfield 29, 3) := by decide +kernel
theorem dX10_looks_13 : decode cX10_looks 13 = .ok (.iconst 3, 1) := by decide +kernel
theorem dX10_looks_14 : decode cX10_looks 14 = .ok (.iload_n 1, 1) := by decide +kernel
theorem dX10_looks_15 : decode cX10_looks 15 = .ok (.imul, 1) := by decide +kernel
theorem dX10_looks_16 : decode cX10_looks 16 = .ok (.iconst 1, 1) := by decide +kernel
theorem dX10_looks_17 : decode cX10_looks 17 = .ok (.iadd, 1) := by decide +kernel
theorem dX10_looks_18 : decode cX10_looks 18 = .ok (.iaload, 1) := by decide +kernel
theorem dX10_looks_19 : decode cX10_looks 19 = .ok (.putfield 191, 3) := by decide +kernel
theorem dX10_looks_22 : decode cX10_looks 22 = .ok (.aload_n 0, 1) := by decide +kernel
theorem dX10_looks_23 : decode cX10_looks 23 = .ok (.aload_n 0, 1) := by decide +kernel
theorem dX10_looks_24 : decode cX10_looks 24 = .ok (.getfield 29, 3) := by decide +kernel
theorem dX10_looks_27 : decode cX10_looks 27 = .ok (.iconst 3, 1) := by decide +kernel
theorem dX10_looks_28 : decode cX10_looks 28 = .ok (.iload_n 1, 1) := by decide +kernel
theorem dX10_looks_29 : decode cX10_looks 29 = .ok (.imul, 1) := by decide +kernel
theorem dX10_looks_30 : decode cX10_looks 30 = .ok (.iaload, 1) := by decide +kernel
theorem dX10_looks_31 : decode cX10_looks 31 = .ok (.putfield 194, 3) := by decide +kernel
theorem dX10_looks_34 : decode cX10_looks 34 = .ok (.aload_n 0, 1) := by decide +kernel
theorem dX10_looks_35 : decode cX10_looks 35 = .ok (.aload_n 0, 1) := by decide +kernel
theorem dX10_looks_36 : decode cX10_looks 36 = .ok (.invokevirtual 249, 3) := by decide +kernel
theorem dX10_looks_39 : decode cX10_looks 39 = .ok (.putfield 197, 3) := by decide +kernel
theorem dX10_looks_42 : decode cX10_looks 42 = .ok (.aload_n 0, 1) := by decide +kernel
theorem dX10_looks_43 : decode cX10_looks 43 = .ok (.aload_n 0, 1) := by decide +kernel
theorem dX10_looks_44 : decode cX10_looks 44 = .ok (.getfield 29, 3) := by decide +kernel
theorem dX10_looks_47 : decode cX10_looks 47 = .ok (.iconst 3, 1) := by decide +kernel
theorem dX10_looks_48 : decode cX10_looks 48 = .ok (.iload_n 1, 1) := by decide +kernel
theorem dX10_looks_49 : decode cX10_looks 49 = .ok (.imul, 1) := by decide +kernel
theorem dX10_looks_50 : decode cX10_looks 50 = .ok (.iconst 2, 1) := by decide +kernel
theorem dX10_looks_51 : decode cX10_looks 51 = .ok (.iadd, 1) := by decide +kernel
theorem dX10_looks_52 : decode cX10_looks 52 = .ok (.iaload, 1) := by decide +kernel
theorem dX10_looks_53 : decode cX10_looks 53 = .ok (.putfield 200, 3) := by decide +kernel
theorem dX10_looks_56 : decode cX10_looks 56 = .ok (.aload_n 0, 1) := by decide +kernel
theorem dX10_looks_57 : decode cX10_looks 57 = .ok (.aload_n 0, 1) := by decide +kernel
theorem dX10_looks_58 : decode cX10_looks 58 = .ok (.invokevirtual 252, 3) := by decide +kernel
theorem dX10_looks_61 : decode cX10_looks 61 = .ok (.putfield 203, 3) := by decide +kernel
theorem dX10_looks_64 : decode cX10_looks 64 = .ok (.return_, 1) := by decide +kernel
theorem dX10_turnsOf_0 : decode cX10_turnsOf 0 = .ok (.aload_n 0, 1) := by decide +kernel
theorem dX10_turnsOf_1 : decode cX10_turnsOf 1 = .ok (.getfield 26, 3) := by decide +kernel
theorem dX10_turnsOf_4 : decode cX10_turnsOf 4 = .ok (.iload_n 1, 1) := by decide +kernel
theorem dX10_turnsOf_5 : decode cX10_turnsOf 5 = .ok (.iaload, 1) := by decide +kernel
theorem dX10_turnsOf_6 : decode cX10_turnsOf 6 = .ok (.istore_n 2, 1) := by decide +kernel
theorem dX10_turnsOf_7 : decode cX10_turnsOf 7 = .ok (.aload_n 0, 1) := by decide +kernel
theorem dX10_turnsOf_8 : decode cX10_turnsOf 8 = .ok (.aload_n 0, 1) := by decide +kernel
theorem dX10_turnsOf_9 : decode cX10_turnsOf 9 = .ok (.getfield 104, 3) := by decide +kernel
theorem dX10_turnsOf_12 : decode cX10_turnsOf 12 = .ok (.iconst 0, 1) := by decide +kernel
theorem dX10_turnsOf_13 : decode cX10_turnsOf 13 = .ok (.invokevirtual 243, 3) := by decide +kernel
theorem dX10_turnsOf_16 : decode cX10_turnsOf 16 = .ok (.bipush (-16), 2) := by decide +kernel
theorem dX10_turnsOf_18 : decode cX10_turnsOf 18 = .ok (.bipush 16, 2) := by decide +kernel
theorem dX10_turnsOf_20 : decode cX10_turnsOf 20 = .ok (.invokestatic 255, 3) := by decide +kernel
theorem dX10_turnsOf_23 : decode cX10_turnsOf 23 = .ok (.istore_n 3, 1) := by decide +kernel
theorem dX10_turnsOf_24 : decode cX10_turnsOf 24 = .ok (.iload_n 2, 1) := by decide +kernel
theorem dX10_turnsOf_25 : decode cX10_turnsOf 25 = .ok (.iconst 1, 1) := by decide +kernel
theorem dX10_turnsOf_26 : decode cX10_turnsOf 26 = .ok (.if_icmp .eq 8, 3) := by decide +kernel
theorem dX10_turnsOf_29 : decode cX10_turnsOf 29 = .ok (.iload_n 2, 1) := by decide +kernel
theorem dX10_turnsOf_30 : decode cX10_turnsOf 30 = .ok (.iconst 3, 1) := by decide +kernel
theorem dX10_turnsOf_31 : decode cX10_turnsOf 31 = .ok (.if_icmp .ne 9, 3) := by decide +kernel
theorem dX10_turnsOf_34 : decode cX10_turnsOf 34 = .ok (.iload_n 3, 1) := by decide +kernel
theorem dX10_turnsOf_35 : decode cX10_turnsOf 35 = .ok (.iconst 1, 1) := by decide +kernel
theorem dX10_turnsOf_36 : decode cX10_turnsOf 36 = .ok (.iadd, 1) := by decide +kernel
theorem dX10_turnsOf_37 : decode cX10_turnsOf 37 = .ok (.goto 25, 3) := by decide +kernel
theorem dX10_turnsOf_40 : decode cX10_turnsOf 40 = .ok (.iload_n 2, 1) := by decide +kernel
theorem dX10_turnsOf_41 : decode cX10_turnsOf 41 = .ok (.iconst 4, 1) := by decide +kernel
theorem dX10_turnsOf_42 : decode cX10_turnsOf 42 = .ok (.if_icmp .ne 9, 3) := by decide +kernel
theorem dX10_turnsOf_45 : decode cX10_turnsOf 45 = .ok (.iconst 2, 1) := by decide +kernel
theorem dX10_turnsOf_46 : decode cX10_turnsOf 46 = .ok (.iload_n 3, 1) := by decide +kernel
theorem dX10_turnsOf_47 : decode cX10_turnsOf 47 = .ok (.imul, 1) := by decide +kernel
theorem dX10_turnsOf_48 : decode cX10_turnsOf 48 = .ok (.goto 14, 3) := by decide +kernel
theorem dX10_turnsOf_51 : decode cX10_turnsOf 51 = .ok (.iload_n 2, 1) := by decide +kernel
theorem dX10_turnsOf_52 : decode cX10_turnsOf 52 = .ok (.iconst 5, 1) := by decide +kernel
theorem dX10_turnsOf_53 : decode cX10_turnsOf 53 = .ok (.if_icmp .ne 8, 3) := by decide +kernel
theorem dX10_turnsOf_56 : decode cX10_turnsOf 56 = .ok (.iload_n 3, 1) := by decide +kernel
theorem dX10_turnsOf_57 : decode cX10_turnsOf 57 = .ok (.ineg, 1) := by decide +kernel
theorem dX10_turnsOf_58 : decode cX10_turnsOf 58 = .ok (.goto 4, 3) := by decide +kernel
theorem dX10_turnsOf_61 : decode cX10_turnsOf 61 = .ok (.iload_n 3, 1) := by decide +kernel
theorem dX10_turnsOf_62 : decode cX10_turnsOf 62 = .ok (.ireturn, 1) := by decide +kernel
theorem dX10_costsOf_0 : decode cX10_costsOf 0 = .ok (.aload_n 0, 1) := by decide +kernel
theorem dX10_costsOf_1 : decode cX10_costsOf 1 = .ok (.getfield 26, 3) := by decide +kernel
theorem dX10_costsOf_4 : decode cX10_costsOf 4 = .ok (.iload_n 1, 1) := by decide +kernel
theorem dX10_costsOf_5 : decode cX10_costsOf 5 = .ok (.iaload, 1) := by decide +kernel
theorem dX10_costsOf_6 : decode cX10_costsOf 6 = .ok (.istore_n 2, 1) := by decide +kernel
theorem dX10_costsOf_7 : decode cX10_costsOf 7 = .ok (.aload_n 0, 1) := by decide +kernel
theorem dX10_costsOf_8 : decode cX10_costsOf 8 = .ok (.aload_n 0, 1) := by decide +kernel
theorem dX10_costsOf_9 : decode cX10_costsOf 9 = .ok (.getfield 104, 3) := by decide +kernel
theorem dX10_costsOf_12 : decode cX10_costsOf 12 = .ok (.iconst 1, 1) := by decide +kernel
theorem dX10_costsOf_13 : decode cX10_costsOf 13 = .ok (.invokevirtual 243, 3) := by decide +kernel
theorem dX10_costsOf_16 : decode cX10_costsOf 16 = .ok (.iconst 0, 1) := by decide +kernel
theorem dX10_costsOf_17 : decode cX10_costsOf 17 = .ok (.sipush 999, 3) := by decide +kernel
theorem dX10_costsOf_20 : decode cX10_costsOf 20 = .ok (.invokestatic 255, 3) := by decide +kernel
theorem dX10_costsOf_23 : decode cX10_costsOf 23 = .ok (.istore_n 3, 1) := by decide +kernel
theorem dX10_costsOf_24 : decode cX10_costsOf 24 = .ok (.iload_n 2, 1) := by decide +kernel
theorem dX10_costsOf_25 : decode cX10_costsOf 25 = .ok (.iconst 1, 1) := by decide +kernel
theorem dX10_costsOf_26 : decode cX10_costsOf 26 = .ok (.if_icmp .ne 9, 3) := by decide +kernel
theorem dX10_costsOf_29 : decode cX10_costsOf 29 = .ok (.iconst 2, 1) := by decide +kernel
theorem dX10_costsOf_30 : decode cX10_costsOf 30 = .ok (.iload_n 3, 1) := by decide +kernel
theorem dX10_costsOf_31 : decode cX10_costsOf 31 = .ok (.imul, 1) := by decide +kernel
theorem dX10_costsOf_32 : decode cX10_costsOf 32 = .ok (.goto 40, 3) := by decide +kernel
theorem dX10_costsOf_35 : decode cX10_costsOf 35 = .ok (.iload_n 2, 1) := by decide +kernel
theorem dX10_costsOf_36 : decode cX10_costsOf 36 = .ok (.iconst 3, 1) := by decide +kernel
theorem dX10_costsOf_37 : decode cX10_costsOf 37 = .ok (.if_icmp .ne 18, 3) := by decide +kernel
theorem dX10_costsOf_40 : decode cX10_costsOf 40 = .ok (.iconst 2, 1) := by decide +kernel
theorem dX10_costsOf_41 : decode cX10_costsOf 41 = .ok (.iload_n 3, 1) := by decide +kernel
theorem dX10_costsOf_42 : decode cX10_costsOf 42 = .ok (.imul, 1) := by decide +kernel
theorem dX10_costsOf_43 : decode cX10_costsOf 43 = .ok (.aload_n 0, 1) := by decide +kernel
theorem dX10_costsOf_44 : decode cX10_costsOf 44 = .ok (.getfield 29, 3) := by decide +kernel
theorem dX10_costsOf_47 : decode cX10_costsOf 47 = .ok (.iconst 3, 1) := by decide +kernel
theorem dX10_costsOf_48 : decode cX10_costsOf 48 = .ok (.iload_n 1, 1) := by decide +kernel
theorem dX10_costsOf_49 : decode cX10_costsOf 49 = .ok (.imul, 1) := by decide +kernel
theorem dX10_costsOf_50 : decode cX10_costsOf 50 = .ok (.iaload, 1) := by decide +kernel
theorem dX10_costsOf_51 : decode cX10_costsOf 51 = .ok (.isub, 1) := by decide +kernel
theorem dX10_costsOf_52 : decode cX10_costsOf 52 = .ok (.goto 20, 3) := by decide +kernel
theorem dX10_costsOf_55 : decode cX10_costsOf 55 = .ok (.iload_n 2, 1) := by decide +kernel
theorem dX10_costsOf_56 : decode cX10_costsOf 56 = .ok (.iconst 2, 1) := by decide +kernel
theorem dX10_costsOf_57 : decode cX10_costsOf 57 = .ok (.if_icmp .eq 8, 3) := by decide +kernel
theorem dX10_costsOf_60 : decode cX10_costsOf 60 = .ok (.iload_n 2, 1) := by decide +kernel
theorem dX10_costsOf_61 : decode cX10_costsOf 61 = .ok (.iconst 4, 1) := by decide +kernel
theorem dX10_costsOf_62 : decode cX10_costsOf 62 = .ok (.if_icmp .ne 9, 3) := by decide +kernel
theorem dX10_costsOf_65 : decode cX10_costsOf 65 = .ok (.iload_n 3, 1) := by decide +kernel
theorem dX10_costsOf_66 : decode cX10_costsOf 66 = .ok (.iconst 2, 1) := by decide +kernel
theorem dX10_costsOf_67 : decode cX10_costsOf 67 = .ok (.idiv, 1) := by decide +kernel
theorem dX10_costsOf_68 : decode cX10_costsOf 68 = .ok (.goto 4, 3) := by decide +kernel
theorem dX10_costsOf_71 : decode cX10_costsOf 71 = .ok (.iload_n 3, 1) := by decide +kernel
theorem dX10_costsOf_72 : decode cX10_costsOf 72 = .ok (.istore 4, 2) := by decide +kernel
theorem dX10_costsOf_74 : decode cX10_costsOf 74 = .ok (.iload 4, 2) := by decide +kernel
theorem dX10_costsOf_76 : decode cX10_costsOf 76 = .ok (.ifCond .ge 7, 3) := by decide +kernel
theorem dX10_costsOf_79 : decode cX10_costsOf 79 = .ok (.iconst 0, 1) := by decide +kernel
theorem dX10_costsOf_80 : decode cX10_costsOf 80 = .ok (.goto 5, 3) := by decide +kernel
theorem dX10_costsOf_83 : decode cX10_costsOf 83 = .ok (.iload 4, 2) := by decide +kernel
theorem dX10_costsOf_85 : decode cX10_costsOf 85 = .ok (.ireturn, 1) := by decide +kernel
theorem dX10_lastsOf_0 : decode cX10_lastsOf 0 = .ok (.aload_n 0, 1) := by decide +kernel
theorem dX10_lastsOf_1 : decode cX10_lastsOf 1 = .ok (.getfield 26, 3) := by decide +kernel
theorem dX10_lastsOf_4 : decode cX10_lastsOf 4 = .ok (.iload_n 1, 1) := by decide +kernel
theorem dX10_lastsOf_5 : decode cX10_lastsOf 5 = .ok (.iaload, 1) := by decide +kernel
theorem dX10_lastsOf_6 : decode cX10_lastsOf 6 = .ok (.istore_n 2, 1) := by decide +kernel
theorem dX10_lastsOf_7 : decode cX10_lastsOf 7 = .ok (.aload_n 0, 1) := by decide +kernel
theorem dX10_lastsOf_8 : decode cX10_lastsOf 8 = .ok (.aload_n 0, 1) := by decide +kernel
theorem dX10_lastsOf_9 : decode cX10_lastsOf 9 = .ok (.getfield 104, 3) := by decide +kernel
theorem dX10_lastsOf_12 : decode cX10_lastsOf 12 = .ok (.iconst 2, 1) := by decide +kernel
theorem dX10_lastsOf_13 : decode cX10_lastsOf 13 = .ok (.invokevirtual 243, 3) := by decide +kernel
theorem dX10_lastsOf_16 : decode cX10_lastsOf 16 = .ok (.iconst 0, 1) := by decide +kernel
theorem dX10_lastsOf_17 : decode cX10_lastsOf 17 = .ok (.bipush 30, 2) := by decide +kernel
theorem dX10_lastsOf_19 : decode cX10_lastsOf 19 = .ok (.invokestatic 255, 3) := by decide +kernel
theorem dX10_lastsOf_22 : decode cX10_lastsOf 22 = .ok (.istore_n 3, 1) := by decide +kernel
theorem dX10_lastsOf_23 : decode cX10_lastsOf 23 = .ok (.iload_n 2, 1) := by decide +kernel
theorem dX10_lastsOf_24 : decode cX10_lastsOf 24 = .ok (.iconst 2, 1) := by decide +kernel
theorem dX10_lastsOf_25 : decode cX10_lastsOf 25 = .ok (.if_icmp .ne 9, 3) := by decide +kernel
theorem dX10_lastsOf_28 : decode cX10_lastsOf 28 = .ok (.iconst 2, 1) := by decide +kernel
theorem dX10_lastsOf_29 : decode cX10_lastsOf 29 = .ok (.iload_n 3, 1) := by decide +kernel
theorem dX10_lastsOf_30 : decode cX10_lastsOf 30 = .ok (.imul, 1) := by decide +kernel
theorem dX10_lastsOf_31 : decode cX10_lastsOf 31 = .ok (.goto 44, 3) := by decide +kernel
theorem dX10_lastsOf_34 : decode cX10_lastsOf 34 = .ok (.iload_n 2, 1) := by decide +kernel
theorem dX10_lastsOf_35 : decode cX10_lastsOf 35 = .ok (.iconst 4, 1) := by decide +kernel
theorem dX10_lastsOf_36 : decode cX10_lastsOf 36 = .ok (.if_icmp .ne 18, 3) := by decide +kernel
theorem dX10_lastsOf_39 : decode cX10_lastsOf 39 = .ok (.iconst 2, 1) := by decide +kernel
theorem dX10_lastsOf_40 : decode cX10_lastsOf 40 = .ok (.iload_n 3, 1) := by decide +kernel
theorem dX10_lastsOf_41 : decode cX10_lastsOf 41 = .ok (.imul, 1) := by decide +kernel
theorem dX10_lastsOf_42 : decode cX10_lastsOf 42 = .ok (.aload_n 0, 1) := by decide +kernel
theorem dX10_lastsOf_43 : decode cX10_lastsOf 43 = .ok (.getfield 29, 3) := by decide +kernel
theorem dX10_lastsOf_46 : decode cX10_lastsOf 46 = .ok (.iconst 3, 1) := by decide +kernel
theorem dX10_lastsOf_47 : decode cX10_lastsOf 47 = .ok (.iload_n 1, 1) := by decide +kernel
theorem dX10_lastsOf_48 : decode cX10_lastsOf 48 = .ok (.imul, 1) := by decide +kernel
theorem dX10_lastsOf_49 : decode cX10_lastsOf 49 = .ok (.iaload, 1) := by decide +kernel
theorem dX10_lastsOf_50 : decode cX10_lastsOf 50 = .ok (.iadd, 1) := by decide +kernel
theorem dX10_lastsOf_51 : decode cX10_lastsOf 51 = .ok (.goto 24, 3) := by decide +kernel
theorem dX10_lastsOf_54 : decode cX10_lastsOf 54 = .ok (.iload_n 2, 1) := by decide +kernel
theorem dX10_lastsOf_55 : decode cX10_lastsOf 55 = .ok (.iconst 3, 1) := by decide +kernel
theorem dX10_lastsOf_56 : decode cX10_lastsOf 56 = .ok (.if_icmp .ne 9, 3) := by decide +kernel
theorem dX10_lastsOf_59 : decode cX10_lastsOf 59 = .ok (.iload_n 3, 1) := by decide +kernel
theorem dX10_lastsOf_60 : decode cX10_lastsOf 60 = .ok (.iconst 1, 1) := by decide +kernel
theorem dX10_lastsOf_61 : decode cX10_lastsOf 61 = .ok (.iadd, 1) := by decide +kernel
theorem dX10_lastsOf_62 : decode cX10_lastsOf 62 = .ok (.goto 13, 3) := by decide +kernel
theorem dX10_lastsOf_65 : decode cX10_lastsOf 65 = .ok (.iload_n 2, 1) := by decide +kernel
theorem dX10_lastsOf_66 : decode cX10_lastsOf 66 = .ok (.iconst 5, 1) := by decide +kernel
theorem dX10_lastsOf_67 : decode cX10_lastsOf 67 = .ok (.if_icmp .ne 7, 3) := by decide +kernel
theorem dX10_lastsOf_70 : decode cX10_lastsOf 70 = .ok (.iconst 1, 1) := by decide +kernel
theorem dX10_lastsOf_71 : decode cX10_lastsOf 71 = .ok (.goto 4, 3) := by decide +kernel
theorem dX10_lastsOf_74 : decode cX10_lastsOf 74 = .ok (.iload_n 3, 1) := by decide +kernel
theorem dX10_lastsOf_75 : decode cX10_lastsOf 75 = .ok (.ireturn, 1) := by decide +kernel
theorem dX10_round_0 : decode cX10_round 0 = .ok (.iload_n 0, 1) := by decide +kernel
theorem dX10_round_1 : decode cX10_round 1 = .ok (.bipush 16, 2) := by decide +kernel
theorem dX10_round_3 : decode cX10_round 3 = .ok (.irem, 1) := by decide +kernel
theorem dX10_round_4 : decode cX10_round 4 = .ok (.istore_n 1, 1) := by decide +kernel
theorem dX10_round_5 : decode cX10_round 5 = .ok (.iload_n 1, 1) := by decide +kernel
theorem dX10_round_6 : decode cX10_round 6 = .ok (.ifCond .ge 10, 3) := by decide +kernel
theorem dX10_round_9 : decode cX10_round 9 = .ok (.iload_n 1, 1) := by decide +kernel
theorem dX10_round_10 : decode cX10_round 10 = .ok (.bipush 16, 2) := by decide +kernel
theorem dX10_round_12 : decode cX10_round 12 = .ok (.iadd, 1) := by decide +kernel
theorem dX10_round_13 : decode cX10_round 13 = .ok (.goto 4, 3) := by decide +kernel
theorem dX10_round_16 : decode cX10_round 16 = .ok (.iload_n 1, 1) := by decide +kernel
theorem dX10_round_17 : decode cX10_round 17 = .ok (.ireturn, 1) := by decide +kernel
theorem dX10_isRoom_0 : decode cX10_isRoom 0 = .ok (.aload_n 0, 1) := by decide +kernel
theorem dX10_isRoom_1 : decode cX10_isRoom 1 = .ok (.getfield 246, 3) := by decide +kernel
theorem dX10_isRoom_4 : decode cX10_isRoom 4 = .ok (.bipush 40, 2) := by decide +kernel
theorem dX10_isRoom_6 : decode cX10_isRoom 6 = .ok (.if_icmp .ge 19, 3) := by decide +kernel
theorem dX10_isRoom_9 : decode cX10_isRoom 9 = .ok (.aload_n 0, 1) := by decide +kernel
theorem dX10_isRoom_10 : decode cX10_isRoom 10 = .ok (.iload_n 1, 1) := by decide +kernel
theorem dX10_isRoom_11 : decode cX10_isRoom 11 = .ok (.invokevirtual 111, 3) := by decide +kernel
theorem dX10_isRoom_14 : decode cX10_isRoom 14 = .ok (.aload_n 0, 1) := by decide +kernel
theorem dX10_isRoom_15 : decode cX10_isRoom 15 = .ok (.invokevirtual 252, 3) := by decide +kernel
theorem dX10_isRoom_18 : decode cX10_isRoom 18 = .ok (.if_icmp .gt 7, 3) := by decide +kernel
theorem dX10_isRoom_21 : decode cX10_isRoom 21 = .ok (.iconst 1, 1) := by decide +kernel
theorem dX10_isRoom_22 : decode cX10_isRoom 22 = .ok (.goto 4, 3) := by decide +kernel
theorem dX10_isRoom_25 : decode cX10_isRoom 25 = .ok (.iconst 0, 1) := by decide +kernel
theorem dX10_isRoom_26 : decode cX10_isRoom 26 = .ok (.ireturn, 1) := by decide +kernel
theorem dX10_canLay_0 : decode cX10_canLay 0 = .ok (.aload_n 0, 1) := by decide +kernel
theorem dX10_canLay_1 : decode cX10_canLay 1 = .ok (.getfield 29, 3) := by decide +kernel
theorem dX10_canLay_4 : decode cX10_canLay 4 = .ok (.iconst 3, 1) := by decide +kernel
theorem dX10_canLay_5 : decode cX10_canLay 5 = .ok (.iload_n 1, 1) := by decide +kernel
theorem dX10_canLay_6 : decode cX10_canLay 6 = .ok (.imul, 1) := by decide +kernel
theorem dX10_canLay_7 : decode cX10_canLay 7 = .ok (.iconst 2, 1) := by decide +kernel
theorem dX10_canLay_8 : decode cX10_canLay 8 = .ok (.iadd, 1) := by decide +kernel
theorem dX10_canLay_9 : decode cX10_canLay 9 = .ok (.iaload, 1) := by decide +kernel
theorem dX10_canLay_10 : decode cX10_canLay 10 = .ok (.ifCond .le 15, 3) := by decide +kernel
theorem dX10_canLay_13 : decode cX10_canLay 13 = .ok (.aload_n 0, 1) := by decide +kernel
theorem dX10_canLay_14 : decode cX10_canLay 14 = .ok (.iload_n 1, 1) := by decide +kernel
theorem dX10_canLay_15 : decode cX10_canLay 15 = .ok (.invokevirtual 259, 3) := by decide +kernel
theorem dX10_canLay_18 : decode cX10_canLay 18 = .ok (.ifCond .eq 7, 3) := by decide +kernel
theorem dX10_canLay_21 : decode cX10_canLay 21 = .ok (.iconst 1, 1) := by decide +kernel
theorem dX10_canLay_22 : decode cX10_canLay 22 = .ok (.goto 4, 3) := by decide +kernel
theorem dX10_canLay_25 : decode cX10_canLay 25 = .ok (.iconst 0, 1) := by decide +kernel
theorem dX10_canLay_26 : decode cX10_canLay 26 = .ok (.ireturn, 1) := by decide +kernel
theorem dX10_puts_0 : decode cX10_puts 0 = .ok (.aload_n 0, 1) := by decide +kernel
theorem dX10_puts_1 : decode cX10_puts 1 = .ok (.iload_n 1, 1) := by decide +kernel
theorem dX10_puts_2 : decode cX10_puts 2 = .ok (.invokevirtual 114, 3) := by decide +kernel
theorem dX10_puts_5 : decode cX10_puts 5 = .ok (.aload_n 0, 1) := by decide +kernel
theorem dX10_puts_6 : decode cX10_puts 6 = .ok (.invokevirtual 249, 3) := by decide +kernel
theorem dX10_puts_9 : decode cX10_puts 9 = .ok (.aload_n 0, 1) := by decide +kernel
theorem dX10_puts_10 : decode cX10_puts 10 = .ok (.iload_n 1, 1) := by decide +kernel
theorem dX10_puts_11 : decode cX10_puts 11 = .ok (.invokevirtual 118, 3) := by decide +kernel
theorem dX10_puts_14 : decode cX10_puts 14 = .ok (.iadd, 1) := by decide +kernel
theorem dX10_puts_15 : decode cX10_puts 15 = .ok (.invokestatic 262, 3) := by decide +kernel
theorem dX10_puts_18 : decode cX10_puts 18 = .ok (.istore_n 2, 1) := by decide +kernel
theorem dX10_puts_19 : decode cX10_puts 19 = .ok (.aload_n 0, 1) := by decide +kernel
theorem dX10_puts_20 : decode cX10_puts 20 = .ok (.getfield 32, 3) := by decide +kernel
theorem dX10_puts_23 : decode cX10_puts 23 = .ok (.aload_n 0, 1) := by decide +kernel
theorem dX10_puts_24 : decode cX10_puts 24 = .ok (.getfield 246, 3) := by decide +kernel
theorem dX10_puts_27 : decode cX10_puts 27 = .ok (.iload_n 1, 1) := by decide +kernel
theorem dX10_puts_28 : decode cX10_puts 28 = .ok (.iastore, 1) := by decide +kernel
theorem dX10_puts_29 : decode cX10_puts 29 = .ok (.aload_n 0, 1) := by decide +kernel
theorem dX10_puts_30 : decode cX10_puts 30 = .ok (.getfield 35, 3) := by decide +kernel
theorem dX10_puts_33 : decode cX10_puts 33 = .ok (.aload_n 0, 1) := by decide +kernel
theorem dX10_puts_34 : decode cX10_puts 34 = .ok (.getfield 246, 3) := by decide +kernel
theorem dX10_puts_37 : decode cX10_puts 37 = .ok (.iload_n 2, 1) := by decide +kernel
theorem dX10_puts_38 : decode cX10_puts 38 = .ok (.iastore, 1) := by decide +kernel
theorem dX10_puts_39 : decode cX10_puts 39 = .ok (.aload_n 0, 1) := by decide +kernel
theorem dX10_puts_40 : decode cX10_puts 40 = .ok (.dup, 1) := by decide +kernel
theorem dX10_puts_41 : decode cX10_puts 41 = .ok (.getfield 246, 3) := by decide +kernel
theorem dX10_puts_44 : decode cX10_puts 44 = .ok (.iconst 1, 1) := by decide +kernel
theorem dX10_puts_45 : decode cX10_puts 45 = .ok (.iadd, 1) := by decide +kernel
theorem dX10_puts_46 : decode cX10_puts 46 = .ok (.putfield 246, 3) := by decide +kernel
theorem dX10_puts_49 : decode cX10_puts 49 = .ok (.aload_n 0, 1) := by decide +kernel
theorem dX10_puts_50 : decode cX10_puts 50 = .ok (.getfield 29, 3) := by decide +kernel
theorem dX10_puts_53 : decode cX10_puts 53 = .ok (.iconst 3, 1) := by decide +kernel
theorem dX10_puts_54 : decode cX10_puts 54 = .ok (.iload_n 1, 1) := by decide +kernel
theorem dX10_puts_55 : decode cX10_puts 55 = .ok (.imul, 1) := by decide +kernel
theorem dX10_puts_56 : decode cX10_puts 56 = .ok (.iconst 2, 1) := by decide +kernel
theorem dX10_puts_57 : decode cX10_puts 57 = .ok (.iadd, 1) := by decide +kernel
theorem dX10_puts_58 : decode cX10_puts 58 = .ok (.dup2, 1) := by decide +kernel
theorem dX10_puts_59 : decode cX10_puts 59 = .ok (.iaload, 1) := by decide +kernel
theorem dX10_puts_60 : decode cX10_puts 60 = .ok (.iconst 1, 1) := by decide +kernel
theorem dX10_puts_61 : decode cX10_puts 61 = .ok (.isub, 1) := by decide +kernel
theorem dX10_puts_62 : decode cX10_puts 62 = .ok (.iastore, 1) := by decide +kernel
theorem dX10_puts_63 : decode cX10_puts 63 = .ok (.return_, 1) := by decide +kernel
theorem dX10_takesOff_0 : decode cX10_takesOff 0 = .ok (.aload_n 0, 1) := by decide +kernel
theorem dX10_takesOff_1 : decode cX10_takesOff 1 = .ok (.dup, 1) := by decide +kernel
theorem dX10_takesOff_2 : decode cX10_takesOff 2 = .ok (.getfield 246, 3) := by decide +kernel
theorem dX10_takesOff_5 : decode cX10_takesOff 5 = .ok (.iconst 1, 1) := by decide +kernel
theorem dX10_takesOff_6 : decode cX10_takesOff 6 = .ok (.isub, 1) := by decide +kernel
theorem dX10_takesOff_7 : decode cX10_takesOff 7 = .ok (.putfield 246, 3) := by decide +kernel
theorem dX10_takesOff_10 : decode cX10_takesOff 10 = .ok (.aload_n 0, 1) := by decide +kernel
theorem dX10_takesOff_11 : decode cX10_takesOff 11 = .ok (.getfield 29, 3) := by decide +kernel
theorem dX10_takesOff_14 : decode cX10_takesOff 14 = .ok (.iconst 3, 1) := by decide +kernel
theorem dX10_takesOff_15 : decode cX10_takesOff 15 = .ok (.aload_n 0, 1) := by decide +kernel
theorem dX10_takesOff_16 : decode cX10_takesOff 16 = .ok (.getfield 32, 3) := by decide +kernel
theorem dX10_takesOff_19 : decode cX10_takesOff 19 = .ok (.aload_n 0, 1) := by decide +kernel
theorem dX10_takesOff_20 : decode cX10_takesOff 20 = .ok (.getfield 246, 3) := by decide +kernel
theorem dX10_takesOff_23 : decode cX10_takesOff 23 = .ok (.iaload, 1) := by decide +kernel
theorem dX10_takesOff_24 : decode cX10_takesOff 24 = .ok (.imul, 1) := by decide +kernel
theorem dX10_takesOff_25 : decode cX10_takesOff 25 = .ok (.iconst 2, 1) := by decide +kernel
theorem dX10_takesOff_26 : decode cX10_takesOff 26 = .ok (.iadd, 1) := by decide +kernel
theorem dX10_takesOff_27 : decode cX10_takesOff 27 = .ok (.dup2, 1) := by decide +kernel
theorem dX10_takesOff_28 : decode cX10_takesOff 28 = .ok (.iaload, 1) := by decide +kernel
theorem dX10_takesOff_29 : decode cX10_takesOff 29 = .ok (.iconst 1, 1) := by decide +kernel
theorem dX10_takesOff_30 : decode cX10_takesOff 30 = .ok (.iadd, 1) := by decide +kernel
theorem dX10_takesOff_31 : decode cX10_takesOff 31 = .ok (.iastore, 1) := by decide +kernel
theorem dX10_takesOff_32 : decode cX10_takesOff 32 = .ok (.return_, 1) := by decide +kernel
theorem dX10_lay_0 : decode cX10_lay 0 = .ok (.aload_n 0, 1) := by decide +kernel
theorem dX10_lay_1 : decode cX10_lay 1 = .ok (.iload_n 1, 1) := by decide +kernel
theorem dX10_lay_2 : decode cX10_lay 2 = .ok (.invokevirtual 85, 3) := by decide +kernel
theorem dX10_lay_5 : decode cX10_lay 5 = .ok (.ifCond .ne 6, 3) := by decide +kernel
theorem dX10_lay_8 : decode cX10_lay 8 = .ok (.bipush (-2), 2) := by decide +kernel
theorem dX10_lay_10 : decode cX10_lay 10 = .ok (.ireturn, 1) := by decide +kernel
theorem dX10_lay_11 : decode cX10_lay 11 = .ok (.aload_n 0, 1) := by decide +kernel
theorem dX10_lay_12 : decode cX10_lay 12 = .ok (.getfield 29, 3) := by decide +kernel
theorem dX10_lay_15 : decode cX10_lay 15 = .ok (.iconst 3, 1) := by decide +kernel
theorem dX10_lay_16 : decode cX10_lay 16 = .ok (.iload_n 1, 1) := by decide +kernel
theorem dX10_lay_17 : decode cX10_lay 17 = .ok (.imul, 1) := by decide +kernel
theorem dX10_lay_18 : decode cX10_lay 18 = .ok (.iconst 2, 1) := by decide +kernel
theorem dX10_lay_19 : decode cX10_lay 19 = .ok (.iadd, 1) := by decide +kernel
theorem dX10_lay_20 : decode cX10_lay 20 = .ok (.iaload, 1) := by decide +kernel
theorem dX10_lay_21 : decode cX10_lay 21 = .ok (.ifCond .ne 6, 3) := by decide +kernel
theorem dX10_lay_24 : decode cX10_lay 24 = .ok (.bipush (-3), 2) := by decide +kernel
theorem dX10_lay_26 : decode cX10_lay 26 = .ok (.ireturn, 1) := by decide +kernel
theorem dX10_lay_27 : decode cX10_lay 27 = .ok (.aload_n 0, 1) := by decide +kernel
theorem dX10_lay_28 : decode cX10_lay 28 = .ok (.iload_n 1, 1) := by decide +kernel
theorem dX10_lay_29 : decode cX10_lay 29 = .ok (.invokevirtual 259, 3) := by decide +kernel
theorem dX10_lay_32 : decode cX10_lay 32 = .ok (.ifCond .ne 6, 3) := by decide +kernel
theorem dX10_lay_35 : decode cX10_lay 35 = .ok (.bipush (-4), 2) := by decide +kernel
theorem dX10_lay_37 : decode cX10_lay 37 = .ok (.ireturn, 1) := by decide +kernel
theorem dX10_lay_38 : decode cX10_lay 38 = .ok (.aload_n 0, 1) := by decide +kernel
theorem dX10_lay_39 : decode cX10_lay 39 = .ok (.iload_n 1, 1) := by decide +kernel
theorem dX10_lay_40 : decode cX10_lay 40 = .ok (.invokevirtual 265, 3) := by decide +kernel
theorem dX10_lay_43 : decode cX10_lay 43 = .ok (.aload_n 0, 1) := by decide +kernel
theorem dX10_lay_44 : decode cX10_lay 44 = .ok (.getfield 35, 3) := by decide +kernel
theorem dX10_lay_47 : decode cX10_lay 47 = .ok (.aload_n 0, 1) := by decide +kernel
theorem dX10_lay_48 : decode cX10_lay 48 = .ok (.getfield 246, 3) := by decide +kernel
theorem dX10_lay_51 : decode cX10_lay 51 = .ok (.iconst 1, 1) := by decide +kernel
theorem dX10_lay_52 : decode cX10_lay 52 = .ok (.isub, 1) := by decide +kernel
theorem dX10_lay_53 : decode cX10_lay 53 = .ok (.iaload, 1) := by decide +kernel
theorem dX10_lay_54 : decode cX10_lay 54 = .ok (.ireturn, 1) := by decide +kernel
theorem dX10_draw_0 : decode cX10_draw 0 = .ok (.iload_n 1, 1) := by decide +kernel
theorem dX10_draw_1 : decode cX10_draw 1 = .ok (.i2l, 1) := by decide +kernel
theorem dX10_draw_2 : decode cX10_draw 2 = .ok (.lconst 0, 1) := by decide +kernel
theorem dX10_draw_3 : decode cX10_draw 3 = .ok (.aload_n 0, 1) := by decide +kernel
theorem dX10_draw_4 : decode cX10_draw 4 = .ok (.getfield 246, 3) := by decide +kernel
theorem dX10_draw_7 : decode cX10_draw 7 = .ok (.iconst 1, 1) := by decide +kernel
theorem dX10_draw_8 : decode cX10_draw 8 = .ok (.isub, 1) := by decide +kernel
theorem dX10_draw_9 : decode cX10_draw 9 = .ok (.i2l, 1) := by decide +kernel
theorem dX10_draw_10 : decode cX10_draw 10 = .ok (.invokestatic 79, 3) := by decide +kernel
theorem dX10_draw_13 : decode cX10_draw 13 = .ok (.ifCond .ne 6, 3) := by decide +kernel
theorem dX10_draw_16 : decode cX10_draw 16 = .ok (.bipush (-2), 2) := by decide +kernel
theorem dX10_draw_18 : decode cX10_draw 18 = .ok (.ireturn, 1) := by decide +kernel
theorem dX10_draw_19 : decode cX10_draw 19 = .ok (.aload_n 0, 1) := by decide +kernel
theorem dX10_draw_20 : decode cX10_draw 20 = .ok (.getfield 32, 3) := by decide +kernel
theorem dX10_draw_23 : decode cX10_draw 23 = .ok (.iload_n 1, 1) := by decide +kernel
theorem dX10_draw_24 : decode cX10_draw 24 = .ok (.iaload, 1) := by decide +kernel
theorem dX10_draw_25 : decode cX10_draw 25 = .ok (.istore_n 2, 1) := by decide +kernel
theorem dX10_draw_26 : decode cX10_draw 26 = .ok (.iload_n 1, 1) := by decide +kernel
theorem dX10_draw_27 : decode cX10_draw 27 = .ok (.istore_n 3, 1) := by decide +kernel
theorem dX10_draw_28 : decode cX10_draw 28 = .ok (.iload_n 3, 1) := by decide +kernel
theorem dX10_draw_29 : decode cX10_draw 29 = .ok (.aload_n 0, 1) := by decide +kernel
theorem dX10_draw_30 : decode cX10_draw 30 = .ok (.getfield 246, 3) := by decide +kernel
theorem dX10_draw_33 : decode cX10_draw 33 = .ok (.iconst 1, 1) := by decide +kernel
theorem dX10_draw_34 : decode cX10_draw 34 = .ok (.isub, 1) := by decide +kernel
theorem dX10_draw_35 : decode cX10_draw 35 = .ok (.if_icmp .ge 37, 3) := by decide +kernel
theorem dX10_draw_38 : decode cX10_draw 38 = .ok (.aload_n 0, 1) := by decide +kernel
theorem dX10_draw_39 : decode cX10_draw 39 = .ok (.getfield 32, 3) := by decide +kernel
theorem dX10_draw_42 : decode cX10_draw 42 = .ok (.iload_n 3, 1) := by decide +kernel
theorem dX10_draw_43 : decode cX10_draw 43 = .ok (.aload_n 0, 1) := by decide +kernel
theorem dX10_draw_44 : decode cX10_draw 44 = .ok (.getfield 32, 3) := by decide +kernel
theorem dX10_draw_47 : decode cX10_draw 47 = .ok (.iload_n 3, 1) := by decide +kernel
theorem dX10_draw_48 : decode cX10_draw 48 = .ok (.iconst 1, 1) := by decide +kernel
theorem dX10_draw_49 : decode cX10_draw 49 = .ok (.iadd, 1) := by decide +kernel
theorem dX10_draw_50 : decode cX10_draw 50 = .ok (.iaload, 1) := by decide +kernel
theorem dX10_draw_51 : decode cX10_draw 51 = .ok (.iastore, 1) := by decide +kernel
theorem dX10_draw_52 : decode cX10_draw 52 = .ok (.aload_n 0, 1) := by decide +kernel
theorem dX10_draw_53 : decode cX10_draw 53 = .ok (.getfield 35, 3) := by decide +kernel
theorem dX10_draw_56 : decode cX10_draw 56 = .ok (.iload_n 3, 1) := by decide +kernel
theorem dX10_draw_57 : decode cX10_draw 57 = .ok (.aload_n 0, 1) := by decide +kernel
theorem dX10_draw_58 : decode cX10_draw 58 = .ok (.getfield 35, 3) := by decide +kernel
theorem dX10_draw_61 : decode cX10_draw 61 = .ok (.iload_n 3, 1) := by decide +kernel
theorem dX10_draw_62 : decode cX10_draw 62 = .ok (.iconst 1, 1) := by decide +kernel
theorem dX10_draw_63 : decode cX10_draw 63 = .ok (.iadd, 1) := by decide +kernel
theorem dX10_draw_64 : decode cX10_draw 64 = .ok (.iaload, 1) := by decide +kernel
theorem dX10_draw_65 : decode cX10_draw 65 = .ok (.iastore, 1) := by decide +kernel
theorem dX10_draw_66 : decode cX10_draw 66 = .ok (.iinc 3 1, 3) := by decide +kernel
theorem dX10_draw_69 : decode cX10_draw 69 = .ok (.goto (-41), 3) := by decide +kernel
theorem dX10_draw_72 : decode cX10_draw 72 = .ok (.aload_n 0, 1) := by decide +kernel
theorem dX10_draw_73 : decode cX10_draw 73 = .ok (.dup, 1) := by decide +kernel
theorem dX10_draw_74 : decode cX10_draw 74 = .ok (.getfield 246, 3) := by decide +kernel
theorem dX10_draw_77 : decode cX10_draw 77 = .ok (.iconst 1, 1) := by decide +kernel
theorem dX10_draw_78 : decode cX10_draw 78 = .ok (.isub, 1) := by decide +kernel
theorem dX10_draw_79 : decode cX10_draw 79 = .ok (.putfield 246, 3) := by decide +kernel
theorem dX10_draw_82 : decode cX10_draw 82 = .ok (.aload_n 0, 1) := by decide +kernel
theorem dX10_draw_83 : decode cX10_draw 83 = .ok (.getfield 29, 3) := by decide +kernel
theorem dX10_draw_86 : decode cX10_draw 86 = .ok (.iconst 3, 1) := by decide +kernel
theorem dX10_draw_87 : decode cX10_draw 87 = .ok (.iload_n 2, 1) := by decide +kernel
theorem dX10_draw_88 : decode cX10_draw 88 = .ok (.imul, 1) := by decide +kernel
theorem dX10_draw_89 : decode cX10_draw 89 = .ok (.iconst 2, 1) := by decide +kernel
theorem dX10_draw_90 : decode cX10_draw 90 = .ok (.iadd, 1) := by decide +kernel
theorem dX10_draw_91 : decode cX10_draw 91 = .ok (.aload_n 0, 1) := by decide +kernel
theorem dX10_draw_92 : decode cX10_draw 92 = .ok (.getfield 29, 3) := by decide +kernel
theorem dX10_draw_95 : decode cX10_draw 95 = .ok (.iconst 3, 1) := by decide +kernel
theorem dX10_draw_96 : decode cX10_draw 96 = .ok (.iload_n 2, 1) := by decide +kernel
theorem dX10_draw_97 : decode cX10_draw 97 = .ok (.imul, 1) := by decide +kernel
theorem dX10_draw_98 : decode cX10_draw 98 = .ok (.iconst 2, 1) := by decide +kernel
theorem dX10_draw_99 : decode cX10_draw 99 = .ok (.iadd, 1) := by decide +kernel
theorem dX10_draw_100 : decode cX10_draw 100 = .ok (.iaload, 1) := by decide +kernel
theorem dX10_draw_101 : decode cX10_draw 101 = .ok (.iconst 1, 1) := by decide +kernel
theorem dX10_draw_102 : decode cX10_draw 102 = .ok (.iadd, 1) := by decide +kernel
theorem dX10_draw_103 : decode cX10_draw 103 = .ok (.iconst 0, 1) := by decide +kernel
theorem dX10_draw_104 : decode cX10_draw 104 = .ok (.bipush 40, 2) := by decide +kernel
theorem dX10_draw_106 : decode cX10_draw 106 = .ok (.invokestatic 255, 3) := by decide +kernel
theorem dX10_draw_109 : decode cX10_draw 109 = .ok (.iastore, 1) := by decide +kernel
theorem dX10_draw_110 : decode cX10_draw 110 = .ok (.iload_n 2, 1) := by decide +kernel
theorem dX10_draw_111 : decode cX10_draw 111 = .ok (.ireturn, 1) := by decide +kernel
theorem dX10_stem_0 : decode cX10_stem 0 = .ok (.iload_n 1, 1) := by decide +kernel
theorem dX10_stem_1 : decode cX10_stem 1 = .ok (.i2l, 1) := by decide +kernel
theorem dX10_stem_2 : decode cX10_stem 2 = .ok (.lconst 0, 1) := by decide +kernel
theorem dX10_stem_3 : decode cX10_stem 3 = .ok (.aload_n 0, 1) := by decide +kernel
theorem dX10_stem_4 : decode cX10_stem 4 = .ok (.getfield 246, 3) := by decide +kernel
theorem dX10_stem_7 : decode cX10_stem 7 = .ok (.iconst 1, 1) := by decide +kernel
theorem dX10_stem_8 : decode cX10_stem 8 = .ok (.isub, 1) := by decide +kernel
theorem dX10_stem_9 : decode cX10_stem 9 = .ok (.i2l, 1) := by decide +kernel
theorem dX10_stem_10 : decode cX10_stem 10 = .ok (.invokestatic 79, 3) := by decide +kernel
theorem dX10_stem_13 : decode cX10_stem 13 = .ok (.ifCond .eq 13, 3) := by decide +kernel
theorem dX10_stem_16 : decode cX10_stem 16 = .ok (.iload_n 2, 1) := by decide +kernel
theorem dX10_stem_17 : decode cX10_stem 17 = .ok (.i2l, 1) := by decide +kernel
theorem dX10_stem_18 : decode cX10_stem 18 = .ok (.lconst 0, 1) := by decide +kernel
theorem dX10_stem_19 : decode cX10_stem 19 = .ok (.lconst 1, 1) := by decide +kernel
theorem dX10_stem_20 : decode cX10_stem 20 = .ok (.invokestatic 79, 3) := by decide +kernel
theorem dX10_stem_23 : decode cX10_stem 23 = .ok (.ifCond .ne 6, 3) := by decide +kernel
theorem dX10_stem_26 : decode cX10_stem 26 = .ok (.bipush (-2), 2) := by decide +kernel
theorem dX10_stem_28 : decode cX10_stem 28 = .ok (.ireturn, 1) := by decide +kernel
theorem dX10_stem_29 : decode cX10_stem 29 = .ok (.iload_n 2, 1) := by decide +kernel
theorem dX10_stem_30 : decode cX10_stem 30 = .ok (.ifCond .ne 12, 3) := by decide +kernel
theorem dX10_stem_33 : decode cX10_stem 33 = .ok (.aload_n 0, 1) := by decide +kernel
theorem dX10_stem_34 : decode cX10_stem 34 = .ok (.getfield 32, 3) := by decide +kernel
theorem dX10_stem_37 : decode cX10_stem 37 = .ok (.iload_n 1, 1) := by decide +kernel
theorem dX10_stem_38 : decode cX10_stem 38 = .ok (.iaload, 1) := by decide +kernel
theorem dX10_stem_39 : decode cX10_stem 39 = .ok (.goto 9, 3) := by decide +kernel
theorem dX10_stem_42 : decode cX10_stem 42 = .ok (.aload_n 0, 1) := by decide +kernel
theorem dX10_stem_43 : decode cX10_stem 43 = .ok (.getfield 35, 3) := by decide +kernel
theorem dX10_stem_46 : decode cX10_stem 46 = .ok (.iload_n 1, 1) := by decide +kernel
theorem dX10_stem_47 : decode cX10_stem 47 = .ok (.iaload, 1) := by decide +kernel
theorem dX10_stem_48 : decode cX10_stem 48 = .ok (.ireturn, 1) := by decide +kernel
theorem dX10_touch_0 : decode cX10_touch 0 = .ok (.aload_n 0, 1) := by decide +kernel
theorem dX10_touch_1 : decode cX10_touch 1 = .ok (.getfield 35, 3) := by decide +kernel
theorem dX10_touch_4 : decode cX10_touch 4 = .ok (.iload_n 1, 1) := by decide +kernel
theorem dX10_touch_5 : decode cX10_touch 5 = .ok (.iaload, 1) := by decide +kernel
theorem dX10_touch_6 : decode cX10_touch 6 = .ok (.aload_n 0, 1) := by decide +kernel
theorem dX10_touch_7 : decode cX10_touch 7 = .ok (.getfield 35, 3) := by decide +kernel
theorem dX10_touch_10 : decode cX10_touch 10 = .ok (.iload_n 2, 1) := by decide +kernel
theorem dX10_touch_11 : decode cX10_touch 11 = .ok (.iaload, 1) := by decide +kernel
theorem dX10_touch_12 : decode cX10_touch 12 = .ok (.isub, 1) := by decide +kernel
theorem dX10_touch_13 : decode cX10_touch 13 = .ok (.invokestatic 262, 3) := by decide +kernel
theorem dX10_touch_16 : decode cX10_touch 16 = .ok (.istore_n 3, 1) := by decide +kernel
theorem dX10_touch_17 : decode cX10_touch 17 = .ok (.aload_n 0, 1) := by decide +kernel
theorem dX10_touch_18 : decode cX10_touch 18 = .ok (.getfield 29, 3) := by decide +kernel
theorem dX10_touch_21 : decode cX10_touch 21 = .ok (.iconst 3, 1) := by decide +kernel
theorem dX10_touch_22 : decode cX10_touch 22 = .ok (.aload_n 0, 1) := by decide +kernel
theorem dX10_touch_23 : decode cX10_touch 23 = .ok (.getfield 32, 3) := by decide +kernel
theorem dX10_touch_26 : decode cX10_touch 26 = .ok (.iload_n 1, 1) := by decide +kernel
theorem dX10_touch_27 : decode cX10_touch 27 = .ok (.iaload, 1) := by decide +kernel
theorem dX10_touch_28 : decode cX10_touch 28 = .ok (.imul, 1) := by decide +kernel
theorem dX10_touch_29 : decode cX10_touch 29 = .ok (.iconst 1, 1) := by decide +kernel
theorem dX10_touch_30 : decode cX10_touch 30 = .ok (.iadd, 1) := by decide +kernel
theorem dX10_touch_31 : decode cX10_touch 31 = .ok (.iaload, 1) := by decide +kernel
theorem dX10_touch_32 : decode cX10_touch 32 = .ok (.aload_n 0, 1) := by decide +kernel
theorem dX10_touch_33 : decode cX10_touch 33 = .ok (.getfield 29, 3) := by decide +kernel
theorem dX10_touch_36 : decode cX10_touch 36 = .ok (.iconst 3, 1) := by decide +kernel
theorem dX10_touch_37 : decode cX10_touch 37 = .ok (.aload_n 0, 1) := by decide +kernel
theorem dX10_touch_38 : decode cX10_touch 38 = .ok (.getfield 32, 3) := by decide +kernel
theorem dX10_touch_41 : decode cX10_touch 41 = .ok (.iload_n 2, 1) := by decide +kernel
theorem dX10_touch_42 : decode cX10_touch 42 = .ok (.iaload, 1) := by decide +kernel
theorem dX10_touch_43 : decode cX10_touch 43 = .ok (.imul, 1) := by decide +kernel
theorem dX10_touch_44 : decode cX10_touch 44 = .ok (.iconst 1, 1) := by decide +kernel
theorem dX10_touch_45 : decode cX10_touch 45 = .ok (.iadd, 1) := by decide +kernel
theorem dX10_touch_46 : decode cX10_touch 46 = .ok (.iaload, 1) := by decide +kernel
theorem dX10_touch_47 : decode cX10_touch 47 = .ok (.if_icmp .ne 18, 3) := by decide +kernel
theorem dX10_touch_50 : decode cX10_touch 50 = .ok (.iload_n 3, 1) := by decide +kernel
theorem dX10_touch_51 : decode cX10_touch 51 = .ok (.iconst 2, 1) := by decide +kernel
theorem dX10_touch_52 : decode cX10_touch 52 = .ok (.if_icmp .lt 9, 3) := by decide +kernel
theorem dX10_touch_55 : decode cX10_touch 55 = .ok (.iload_n 3, 1) := by decide +kernel
theorem dX10_touch_56 : decode cX10_touch 56 = .ok (.bipush 15, 2) := by decide +kernel
theorem dX10_touch_58 : decode cX10_touch 58 = .ok (.if_icmp .ne 7, 3) := by decide +kernel
theorem dX10_touch_61 : decode cX10_touch 61 = .ok (.iconst 1, 1) := by decide +kernel
theorem dX10_touch_62 : decode cX10_touch 62 = .ok (.goto 4, 3) := by decide +kernel
theorem dX10_touch_65 : decode cX10_touch 65 = .ok (.iconst 0, 1) := by decide +kernel
theorem dX10_touch_66 : decode cX10_touch 66 = .ok (.ireturn, 1) := by decide +kernel
theorem dX10_touching_0 : decode cX10_touching 0 = .ok (.iconst 0, 1) := by decide +kernel
theorem dX10_touching_1 : decode cX10_touching 1 = .ok (.istore_n 2, 1) := by decide +kernel
theorem dX10_touching_2 : decode cX10_touching 2 = .ok (.iconst 0, 1) := by decide +kernel
theorem dX10_touching_3 : decode cX10_touching 3 = .ok (.istore_n 3, 1) := by decide +kernel
theorem dX10_touching_4 : decode cX10_touching 4 = .ok (.iload_n 3, 1) := by decide +kernel
theorem dX10_touching_5 : decode cX10_touching 5 = .ok (.aload_n 0, 1) := by decide +kernel
theorem dX10_touching_6 : decode cX10_touching 6 = .ok (.getfield 246, 3) := by decide +kernel
theorem dX10_touching_9 : decode cX10_touching 9 = .ok (.if_icmp .ge 58, 3) := by decide +kernel
theorem dX10_touching_12 : decode cX10_touching 12 = .ok (.iload_n 3, 1) := by decide +kernel
theorem dX10_touching_13 : decode cX10_touching 13 = .ok (.iconst 1, 1) := by decide +kernel
theorem dX10_touching_14 : decode cX10_touching 14 = .ok (.iadd, 1) := by decide +kernel
theorem dX10_touching_15 : decode cX10_touching 15 = .ok (.istore 4, 2) := by decide +kernel
theorem dX10_touching_17 : decode cX10_touching 17 = .ok (.iload 4, 2) := by decide +kernel
theorem dX10_touching_19 : decode cX10_touching 19 = .ok (.aload_n 0, 1) := by decide +kernel
theorem dX10_touching_20 : decode cX10_touching 20 = .ok (.getfield 246, 3) := by decide +kernel
theorem dX10_touching_23 : decode cX10_touching 23 = .ok (.if_icmp .ge 38, 3) := by decide +kernel
theorem dX10_touching_26 : decode cX10_touching 26 = .ok (.iload_n 2, 1) := by decide +kernel
theorem dX10_touching_27 : decode cX10_touching 27 = .ok (.iload_n 3, 1) := by decide +kernel
theorem dX10_touching_28 : decode cX10_touching 28 = .ok (.iload_n 1, 1) := by decide +kernel
theorem dX10_touching_29 : decode cX10_touching 29 = .ok (.if_icmp .eq 23, 3) := by decide +kernel
theorem dX10_touching_32 : decode cX10_touching 32 = .ok (.iload 4, 2) := by decide +kernel
theorem dX10_touching_34 : decode cX10_touching 34 = .ok (.iload_n 1, 1) := by decide +kernel
theorem dX10_touching_35 : decode cX10_touching 35 = .ok (.if_icmp .eq 17, 3) := by decide +kernel
theorem dX10_touching_38 : decode cX10_touching 38 = .ok (.aload_n 0, 1) := by decide +kernel
theorem dX10_touching_39 : decode cX10_touching 39 = .ok (.iload_n 3, 1) := by decide +kernel
theorem dX10_touching_40 : decode cX10_touching 40 = .ok (.iload 4, 2) := by decide +kernel
theorem dX10_touching_42 : decode cX10_touching 42 = .ok (.invokevirtual 268, 3) := by decide +kernel
theorem dX10_touching_45 : decode cX10_touching 45 = .ok (.ifCond .eq 7, 3) := by decide +kernel
theorem dX10_touching_48 : decode cX10_touching 48 = .ok (.iconst 1, 1) := by decide +kernel
theorem dX10_touching_49 : decode cX10_touching 49 = .ok (.goto 4, 3) := by decide +kernel
theorem dX10_touching_52 : decode cX10_touching 52 = .ok (.iconst 0, 1) := by decide +kernel
theorem dX10_touching_53 : decode cX10_touching 53 = .ok (.iadd, 1) := by decide +kernel
theorem dX10_touching_54 : decode cX10_touching 54 = .ok (.istore_n 2, 1) := by decide +kernel
theorem dX10_touching_55 : decode cX10_touching 55 = .ok (.iinc 4 1, 3) := by decide +kernel
theorem dX10_touching_58 : decode cX10_touching 58 = .ok (.goto (-41), 3) := by decide +kernel
theorem dX10_touching_61 : decode cX10_touching 61 = .ok (.iinc 3 1, 3) := by decide +kernel
theorem dX10_touching_64 : decode cX10_touching 64 = .ok (.goto (-60), 3) := by decide +kernel
theorem dX10_touching_67 : decode cX10_touching 67 = .ok (.iload_n 2, 1) := by decide +kernel
theorem dX10_touching_68 : decode cX10_touching 68 = .ok (.ireturn, 1) := by decide +kernel
theorem dX10_quarter_0 : decode cX10_quarter 0 = .ok (.iconst 0, 1) := by decide +kernel
theorem dX10_quarter_1 : decode cX10_quarter 1 = .ok (.istore_n 2, 1) := by decide +kernel
theorem dX10_quarter_2 : decode cX10_quarter 2 = .ok (.iconst 0, 1) := by decide +kernel
theorem dX10_quarter_3 : decode cX10_quarter 3 = .ok (.istore_n 3, 1) := by decide +kernel
theorem dX10_quarter_4 : decode cX10_quarter 4 = .ok (.iload_n 3, 1) := by decide +kernel
theorem dX10_quarter_5 : decode cX10_quarter 5 = .ok (.aload_n 0, 1) := by decide +kernel
theorem dX10_quarter_6 : decode cX10_quarter 6 = .ok (.getfield 246, 3) := by decide +kernel
theorem dX10_quarter_9 : decode cX10_quarter 9 = .ok (.if_icmp .ge 29, 3) := by decide +kernel
theorem dX10_quarter_12 : decode cX10_quarter 12 = .ok (.iload_n 2, 1) := by decide +kernel
theorem dX10_quarter_13 : decode cX10_quarter 13 = .ok (.aload_n 0, 1) := by decide +kernel
theorem dX10_quarter_14 : decode cX10_quarter 14 = .ok (.getfield 35, 3) := by decide +kernel
theorem dX10_quarter_17 : decode cX10_quarter 17 = .ok (.iload_n 3, 1) := by decide +kernel
theorem dX10_quarter_18 : decode cX10_quarter 18 = .ok (.iaload, 1) := by decide +kernel
theorem dX10_quarter_19 : decode cX10_quarter 19 = .ok (.iconst 4, 1) := by decide +kernel
theorem dX10_quarter_20 : decode cX10_quarter 20 = .ok (.idiv, 1) := by decide +kernel
theorem dX10_quarter_21 : decode cX10_quarter 21 = .ok (.iload_n 1, 1) := by decide +kernel
theorem dX10_quarter_22 : decode cX10_quarter 22 = .ok (.if_icmp .ne 7, 3) := by decide +kernel
theorem dX10_quarter_25 : decode cX10_quarter 25 = .ok (.iconst 1, 1) := by decide +kernel
theorem dX10_quarter_26 : decode cX10_quarter 26 = .ok (.goto 4, 3) := by decide +kernel
theorem dX10_quarter_29 : decode cX10_quarter 29 = .ok (.iconst 0, 1) := by decide +kernel
theorem dX10_quarter_30 : decode cX10_quarter 30 = .ok (.iadd, 1) := by decide +kernel
theorem dX10_quarter_31 : decode cX10_quarter 31 = .ok (.istore_n 2, 1) := by decide +kernel
theorem dX10_quarter_32 : decode cX10_quarter 32 = .ok (.iinc 3 1, 3) := by decide +kernel
theorem dX10_quarter_35 : decode cX10_quarter 35 = .ok (.goto (-31), 3) := by decide +kernel
theorem dX10_quarter_38 : decode cX10_quarter 38 = .ok (.iload_n 2, 1) := by decide +kernel
theorem dX10_quarter_39 : decode cX10_quarter 39 = .ok (.ireturn, 1) := by decide +kernel
theorem dX10_even_0 : decode cX10_even 0 = .ok (.bipush 40, 2) := by decide +kernel
theorem dX10_even_2 : decode cX10_even 2 = .ok (.istore_n 1, 1) := by decide +kernel
theorem dX10_even_3 : decode cX10_even 3 = .ok (.iconst 0, 1) := by decide +kernel
theorem dX10_even_4 : decode cX10_even 4 = .ok (.istore_n 2, 1) := by decide +kernel
theorem dX10_even_5 : decode cX10_even 5 = .ok (.iconst 0, 1) := by decide +kernel
theorem dX10_even_6 : decode cX10_even 6 = .ok (.istore_n 3, 1) := by decide +kernel
theorem dX10_even_7 : decode cX10_even 7 = .ok (.iload_n 3, 1) := by decide +kernel
theorem dX10_even_8 : decode cX10_even 8 = .ok (.iconst 4, 1) := by decide +kernel
theorem dX10_even_9 : decode cX10_even 9 = .ok (.if_icmp .ge 42, 3) := by decide +kernel
theorem dX10_even_12 : decode cX10_even 12 = .ok (.aload_n 0, 1) := by decide +kernel
theorem dX10_even_13 : decode cX10_even 13 = .ok (.iload_n 3, 1) := by decide +kernel
theorem dX10_even_14 : decode cX10_even 14 = .ok (.invokevirtual 271, 3) := by decide +kernel
theorem dX10_even_17 : decode cX10_even 17 = .ok (.istore 4, 2) := by decide +kernel
theorem dX10_even_19 : decode cX10_even 19 = .ok (.iload 4, 2) := by decide +kernel
theorem dX10_even_21 : decode cX10_even 21 = .ok (.iload_n 1, 1) := by decide +kernel
theorem dX10_even_22 : decode cX10_even 22 = .ok (.if_icmp .ge 8, 3) := by decide +kernel
theorem dX10_even_25 : decode cX10_even 25 = .ok (.iload 4, 2) := by decide +kernel
theorem dX10_even_27 : decode cX10_even 27 = .ok (.goto 4, 3) := by decide +kernel
theorem dX10_even_30 : decode cX10_even 30 = .ok (.iload_n 1, 1) := by decide +kernel
theorem dX10_even_31 : decode cX10_even 31 = .ok (.istore_n 1, 1) := by decide +kernel
theorem dX10_even_32 : decode cX10_even 32 = .ok (.iload 4, 2) := by decide +kernel
theorem dX10_even_34 : decode cX10_even 34 = .ok (.iload_n 2, 1) := by decide +kernel
theorem dX10_even_35 : decode cX10_even 35 = .ok (.if_icmp .le 8, 3) := by decide +kernel
theorem dX10_even_38 : decode cX10_even 38 = .ok (.iload 4, 2) := by decide +kernel
theorem dX10_even_40 : decode cX10_even 40 = .ok (.goto 4, 3) := by decide +kernel
theorem dX10_even_43 : decode cX10_even 43 = .ok (.iload_n 2, 1) := by decide +kernel
theorem dX10_even_44 : decode cX10_even 44 = .ok (.istore_n 2, 1) := by decide +kernel
theorem dX10_even_45 : decode cX10_even 45 = .ok (.iinc 3 1, 3) := by decide +kernel
theorem dX10_even_48 : decode cX10_even 48 = .ok (.goto (-41), 3) := by decide +kernel
theorem dX10_even_51 : decode cX10_even 51 = .ok (.iload_n 2, 1) := by decide +kernel
theorem dX10_even_52 : decode cX10_even 52 = .ok (.iload_n 1, 1) := by decide +kernel
theorem dX10_even_53 : decode cX10_even 53 = .ok (.isub, 1) := by decide +kernel
theorem dX10_even_54 : decode cX10_even 54 = .ok (.ireturn, 1) := by decide +kernel
theorem dX10_cost_0 : decode cX10_cost 0 = .ok (.iconst 0, 1) := by decide +kernel
theorem dX10_cost_1 : decode cX10_cost 1 = .ok (.istore_n 1, 1) := by decide +kernel
theorem dX10_cost_2 : decode cX10_cost 2 = .ok (.iconst 0, 1) := by decide +kernel
theorem dX10_cost_3 : decode cX10_cost 3 = .ok (.istore_n 2, 1) := by decide +kernel
theorem dX10_cost_4 : decode cX10_cost 4 = .ok (.iload_n 2, 1) := by decide +kernel
theorem dX10_cost_5 : decode cX10_cost 5 = .ok (.aload_n 0, 1) := by decide +kernel
theorem dX10_cost_6 : decode cX10_cost 6 = .ok (.getfield 246, 3) := by decide +kernel
theorem dX10_cost_9 : decode cX10_cost 9 = .ok (.if_icmp .ge 32, 3) := by decide +kernel
theorem dX10_cost_12 : decode cX10_cost 12 = .ok (.aload_n 0, 1) := by decide +kernel
theorem dX10_cost_13 : decode cX10_cost 13 = .ok (.aload_n 0, 1) := by decide +kernel
theorem dX10_cost_14 : decode cX10_cost 14 = .ok (.getfield 32, 3) := by decide +kernel
theorem dX10_cost_17 : decode cX10_cost 17 = .ok (.iload_n 2, 1) := by decide +kernel
theorem dX10_cost_18 : decode cX10_cost 18 = .ok (.iaload, 1) := by decide +kernel
theorem dX10_cost_19 : decode cX10_cost 19 = .ok (.invokevirtual 114, 3) := by decide +kernel
theorem dX10_cost_22 : decode cX10_cost 22 = .ok (.iload_n 1, 1) := by decide +kernel
theorem dX10_cost_23 : decode cX10_cost 23 = .ok (.aload_n 0, 1) := by decide +kernel
theorem dX10_cost_24 : decode cX10_cost 24 = .ok (.aload_n 0, 1) := by decide +kernel
theorem dX10_cost_25 : decode cX10_cost 25 = .ok (.getfield 32, 3) := by decide +kernel
theorem dX10_cost_28 : decode cX10_cost 28 = .ok (.iload_n 2, 1) := by decide +kernel
theorem dX10_cost_29 : decode cX10_cost 29 = .ok (.iaload, 1) := by decide +kernel
theorem dX10_cost_30 : decode cX10_cost 30 = .ok (.invokevirtual 121, 3) := by decide +kernel
theorem dX10_cost_33 : decode cX10_cost 33 = .ok (.iadd, 1) := by decide +kernel
theorem dX10_cost_34 : decode cX10_cost 34 = .ok (.istore_n 1, 1) := by decide +kernel
theorem dX10_cost_35 : decode cX10_cost 35 = .ok (.iinc 2 1, 3) := by decide +kernel
theorem dX10_cost_38 : decode cX10_cost 38 = .ok (.goto (-34), 3) := by decide +kernel
theorem dX10_cost_41 : decode cX10_cost 41 = .ok (.iload_n 1, 1) := by decide +kernel
theorem dX10_cost_42 : decode cX10_cost 42 = .ok (.ireturn, 1) := by decide +kernel
theorem dX10_ofColours_0 : decode cX10_ofColours 0 = .ok (.iconst 0, 1) := by decide +kernel
theorem dX10_ofColours_1 : decode cX10_ofColours 1 = .ok (.istore_n 2, 1) := by decide +kernel
theorem dX10_ofColours_2 : decode cX10_ofColours 2 = .ok (.iconst 0, 1) := by decide +kernel
theorem dX10_ofColours_3 : decode cX10_ofColours 3 = .ok (.istore_n 3, 1) := by decide +kernel
theorem dX10_ofColours_4 : decode cX10_ofColours 4 = .ok (.iload_n 3, 1) := by decide +kernel
theorem dX10_ofColours_5 : decode cX10_ofColours 5 = .ok (.aload_n 0, 1) := by decide +kernel
theorem dX10_ofColours_6 : decode cX10_ofColours 6 = .ok (.getfield 246, 3) := by decide +kernel
theorem dX10_ofColours_9 : decode cX10_ofColours 9 = .ok (.if_icmp .ge 36, 3) := by decide +kernel
theorem dX10_ofColours_12 : decode cX10_ofColours 12 = .ok (.iload_n 2, 1) := by decide +kernel
theorem dX10_ofColours_13 : decode cX10_ofColours 13 = .ok (.aload_n 0, 1) := by decide +kernel
theorem dX10_ofColours_14 : decode cX10_ofColours 14 = .ok (.getfield 29, 3) := by decide +kernel
theorem dX10_ofColours_17 : decode cX10_ofColours 17 = .ok (.iconst 3, 1) := by decide +kernel
theorem dX10_ofColours_18 : decode cX10_ofColours 18 = .ok (.aload_n 0, 1) := by decide +kernel
theorem dX10_ofColours_19 : decode cX10_ofColours 19 = .ok (.getfield 32, 3) := by decide +kernel
theorem dX10_ofColours_22 : decode cX10_ofColours 22 = .ok (.iload_n 3, 1) := by decide +kernel
theorem dX10_ofColours_23 : decode cX10_ofColours 23 = .ok (.iaload, 1) := by decide +kernel
theorem dX10_ofColours_24 : decode cX10_ofColours 24 = .ok (.imul, 1) := by decide +kernel
theorem dX10_ofColours_25 : decode cX10_ofColours 25 = .ok (.iconst 1, 1) := by decide +kernel
theorem dX10_ofColours_26 : decode cX10_ofColours 26 = .ok (.iadd, 1) := by decide +kernel
theorem dX10_ofColours_27 : decode cX10_ofColours 27 = .ok (.iaload, 1) := by decide +kernel
theorem dX10_ofColours_28 : decode cX10_ofColours 28 = .ok (.iload_n 1, 1) := by decide +kernel
theorem dX10_ofColours_29 : decode cX10_ofColours 29 = .ok (.if_icmp .ne 7, 3) := by decide +kernel
theorem dX10_ofColours_32 : decode cX10_ofColours 32 = .ok (.iconst 1, 1) := by decide +kernel
theorem dX10_ofColours_33 : decode cX10_ofColours 33 = .ok (.goto 4, 3) := by decide +kernel
theorem dX10_ofColours_36 : decode cX10_ofColours 36 = .ok (.iconst 0, 1) := by decide +kernel
theorem dX10_ofColours_37 : decode cX10_ofColours 37 = .ok (.iadd, 1) := by decide +kernel
theorem dX10_ofColours_38 : decode cX10_ofColours 38 = .ok (.istore_n 2, 1) := by decide +kernel
theorem dX10_ofColours_39 : decode cX10_ofColours 39 = .ok (.iinc 3 1, 3) := by decide +kernel
theorem dX10_ofColours_42 : decode cX10_ofColours 42 = .ok (.goto (-38), 3) := by decide +kernel
theorem dX10_ofColours_45 : decode cX10_ofColours 45 = .ok (.iload_n 2, 1) := by decide +kernel
theorem dX10_ofColours_46 : decode cX10_ofColours 46 = .ok (.ireturn, 1) := by decide +kernel
theorem dX10_bunch_0 : decode cX10_bunch 0 = .ok (.iload_n 1, 1) := by decide +kernel
theorem dX10_bunch_1 : decode cX10_bunch 1 = .ok (.i2l, 1) := by decide +kernel
theorem dX10_bunch_2 : decode cX10_bunch 2 = .ok (.lconst 0, 1) := by decide +kernel
theorem dX10_bunch_3 : decode cX10_bunch 3 = .ok (.ldc2_w 274, 3) := by decide +kernel
theorem dX10_bunch_6 : decode cX10_bunch 6 = .ok (.invokestatic 79, 3) := by decide +kernel
theorem dX10_bunch_9 : decode cX10_bunch 9 = .ok (.ifCond .ne 21, 3) := by decide +kernel
theorem dX10_bunch_12 : decode cX10_bunch 12 = .ok (.iload_n 1, 1) := by decide +kernel
theorem dX10_bunch_13 : decode cX10_bunch 13 = .ok (.i2l, 1) := by decide +kernel
theorem dX10_bunch_14 : decode cX10_bunch 14 = .ok (.ldc2_w 162, 3) := by decide +kernel
theorem dX10_bunch_17 : decode cX10_bunch 17 = .ok (.ldc2_w 276, 3) := by decide +kernel
theorem dX10_bunch_20 : decode cX10_bunch 20 = .ok (.invokestatic 79, 3) := by decide +kernel
theorem dX10_bunch_23 : decode cX10_bunch 23 = .ok (.ifCond .ne 7, 3) := by decide +kernel
theorem dX10_bunch_26 : decode cX10_bunch 26 = .ok (.ldc_w 278, 3) := by decide +kernel
theorem dX10_bunch_29 : decode cX10_bunch 29 = .ok (.ireturn, 1) := by decide +kernel
theorem dX10_bunch_30 : decode cX10_bunch 30 = .ok (.iload_n 1, 1) := by decide +kernel
theorem dX10_bunch_31 : decode cX10_bunch 31 = .ok (.iconst 4, 1) := by decide +kernel
theorem dX10_bunch_32 : decode cX10_bunch 32 = .ok (.if_icmp .ge 44, 3) := by decide +kernel
theorem dX10_bunch_35 : decode cX10_bunch 35 = .ok (.iload_n 1, 1) := by decide +kernel
theorem dX10_bunch_36 : decode cX10_bunch 36 = .ok (.ifCond .ne 11, 3) := by decide +kernel
theorem dX10_bunch_39 : decode cX10_bunch 39 = .ok (.aload_n 0, 1) := by decide +kernel
theorem dX10_bunch_40 : decode cX10_bunch 40 = .ok (.iconst (-1), 1) := by decide +kernel
theorem dX10_bunch_41 : decode cX10_bunch 41 = .ok (.invokevirtual 279, 3) := by decide +kernel
theorem dX10_bunch_44 : decode cX10_bunch 44 = .ok (.goto 31, 3) := by decide +kernel
theorem dX10_bunch_47 : decode cX10_bunch 47 = .ok (.iload_n 1, 1) := by decide +kernel
theorem dX10_bunch_48 : decode cX10_bunch 48 = .ok (.iconst 1, 1) := by decide +kernel
theorem dX10_bunch_49 : decode cX10_bunch 49 = .ok (.if_icmp .ne 10, 3) := by decide +kernel
theorem dX10_bunch_52 : decode cX10_bunch 52 = .ok (.aload_n 0, 1) := by decide +kernel
theorem dX10_bunch_53 : decode cX10_bunch 53 = .ok (.invokevirtual 282, 3) := by decide +kernel
theorem dX10_bunch_56 : decode cX10_bunch 56 = .ok (.goto 19, 3) := by decide +kernel
theorem dX10_bunch_59 : decode cX10_bunch 59 = .ok (.iload_n 1, 1) := by decide +kernel
theorem dX10_bunch_60 : decode cX10_bunch 60 = .ok (.iconst 2, 1) := by decide +kernel
theorem dX10_bunch_61 : decode cX10_bunch 61 = .ok (.if_icmp .ne 10, 3) := by decide +kernel
theorem dX10_bunch_64 : decode cX10_bunch 64 = .ok (.aload_n 0, 1) := by decide +kernel
theorem dX10_bunch_65 : decode cX10_bunch 65 = .ok (.invokevirtual 285, 3) := by decide +kernel
theorem dX10_bunch_68 : decode cX10_bunch 68 = .ok (.goto 7, 3) := by decide +kernel
theorem dX10_bunch_71 : decode cX10_bunch 71 = .ok (.aload_n 0, 1) := by decide +kernel
theorem dX10_bunch_72 : decode cX10_bunch 72 = .ok (.invokevirtual 252, 3) := by decide +kernel
theorem dX10_bunch_75 : decode cX10_bunch 75 = .ok (.ireturn, 1) := by decide +kernel
theorem dX10_bunch_76 : decode cX10_bunch 76 = .ok (.iload_n 1, 1) := by decide +kernel
theorem dX10_bunch_77 : decode cX10_bunch 77 = .ok (.bipush 8, 2) := by decide +kernel
theorem dX10_bunch_79 : decode cX10_bunch 79 = .ok (.if_icmp .ge 13, 3) := by decide +kernel
theorem dX10_bunch_82 : decode cX10_bunch 82 = .ok (.aload_n 0, 1) := by decide +kernel
theorem dX10_bunch_83 : decode cX10_bunch 83 = .ok (.iload_n 1, 1) := by decide +kernel
theorem dX10_bunch_84 : decode cX10_bunch 84 = .ok (.iconst 4, 1) := by decide +kernel
theorem dX10_bunch_85 : decode cX10_bunch 85 = .ok (.isub, 1) := by decide +kernel
theorem dX10_bunch_86 : decode cX10_bunch 86 = .ok (.invokevirtual 271, 3) := by decide +kernel
theorem dX10_bunch_89 : decode cX10_bunch 89 = .ok (.goto 11, 3) := by decide +kernel
theorem dX10_bunch_92 : decode cX10_bunch 92 = .ok (.aload_n 0, 1) := by decide +kernel
theorem dX10_bunch_93 : decode cX10_bunch 93 = .ok (.iload_n 1, 1) := by decide +kernel
theorem dX10_bunch_94 : decode cX10_bunch 94 = .ok (.bipush 10, 2) := by decide +kernel
theorem dX10_bunch_96 : decode cX10_bunch 96 = .ok (.isub, 1) := by decide +kernel
theorem dX10_bunch_97 : decode cX10_bunch 97 = .ok (.invokevirtual 288, 3) := by decide +kernel
theorem dX10_bunch_100 : decode cX10_bunch 100 = .ok (.ireturn, 1) := by decide +kernel
theorem dX10_good_0 : decode cX10_good 0 = .ok (.iload_n 1, 1) := by decide +kernel
theorem dX10_good_1 : decode cX10_good 1 = .ok (.i2l, 1) := by decide +kernel
theorem dX10_good_2 : decode cX10_good 2 = .ok (.lconst 0, 1) := by decide +kernel
theorem dX10_good_3 : decode cX10_good 3 = .ok (.ldc2_w 291, 3) := by decide +kernel
theorem dX10_good_6 : decode cX10_good 6 = .ok (.invokestatic 79, 3) := by decide +kernel
theorem dX10_good_9 : decode cX10_good 9 = .ok (.ifCond .ne 6, 3) := by decide +kernel
theorem dX10_good_12 : decode cX10_good 12 = .ok (.bipush (-2), 2) := by decide +kernel
theorem dX10_good_14 : decode cX10_good 14 = .ok (.ireturn, 1) := by decide +kernel
theorem dX10_good_15 : decode cX10_good 15 = .ok (.iconst 0, 1) := by decide +kernel
theorem dX10_good_16 : decode cX10_good 16 = .ok (.istore_n 2, 1) := by decide +kernel
theorem dX10_good_17 : decode cX10_good 17 = .ok (.iconst 0, 1) := by decide +kernel
theorem dX10_good_18 : decode cX10_good 18 = .ok (.istore_n 3, 1) := by decide +kernel
theorem dX10_good_19 : decode cX10_good 19 = .ok (.iload_n 3, 1) := by decide +kernel
theorem dX10_good_20 : decode cX10_good 20 = .ok (.aload_n 0, 1) := by decide +kernel
theorem dX10_good_21 : decode cX10_good 21 = .ok (.getfield 246, 3) := by decide +kernel
theorem dX10_good_24 : decode cX10_good 24 = .ok (.if_icmp .ge 41, 3) := by decide +kernel
theorem dX10_good_27 : decode cX10_good 27 = .ok (.aload_n 0, 1) := by decide +kernel
theorem dX10_good_28 : decode cX10_good 28 = .ok (.aload_n 0, 1) := by decide +kernel
theorem dX10_good_29 : decode cX10_good 29 = .ok (.getfield 32, 3) := by decide +kernel
theorem dX10_good_32 : decode cX10_good 32 = .ok (.iload_n 3, 1) := by decide +kernel
theorem dX10_good_33 : decode cX10_good 33 = .ok (.iaload, 1) := by decide +kernel
theorem dX10_good_34 : decode cX10_good 34 = .ok (.invokevirtual 114, 3) := by decide +kernel
theorem dX10_good_37 : decode cX10_good 37 = .ok (.iload_n 2, 1) := by decide +kernel
theorem dX10_good_38 : decode cX10_good 38 = .ok (.aload_n 0, 1) := by decide +kernel
theorem dX10_good_39 : decode cX10_good 39 = .ok (.aload_n 0, 1) := by decide +kernel
theorem dX10_good_40 : decode cX10_good 40 = .ok (.getfield 32, 3) := by decide +kernel
theorem dX10_good_43 : decode cX10_good 43 = .ok (.iload_n 3, 1) := by decide +kernel
theorem dX10_good_44 : decode cX10_good 44 = .ok (.iaload, 1) := by decide +kernel
theorem dX10_good_45 : decode cX10_good 45 = .ok (.invokevirtual 124, 3) := by decide +kernel
theorem dX10_good_48 : decode cX10_good 48 = .ok (.iload_n 1, 1) := by decide +kernel
theorem dX10_good_49 : decode cX10_good 49 = .ok (.if_icmp .lt 7, 3) := by decide +kernel
theorem dX10_good_52 : decode cX10_good 52 = .ok (.iconst 1, 1) := by decide +kernel
theorem dX10_good_53 : decode cX10_good 53 = .ok (.goto 4, 3) := by decide +kernel
theorem dX10_good_56 : decode cX10_good 56 = .ok (.iconst 0, 1) := by decide +kernel
theorem dX10_good_57 : decode cX10_good 57 = .ok (.iadd, 1) := by decide +kernel
theorem dX10_good_58 : decode cX10_good 58 = .ok (.istore_n 2, 1) := by decide +kernel
theorem dX10_good_59 : decode cX10_good 59 = .ok (.iinc 3 1, 3) := by decide +kernel
theorem dX10_good_62 : decode cX10_good 62 = .ok (.goto (-43), 3) := by decide +kernel
theorem dX10_good_65 : decode cX10_good 65 = .ok (.iload_n 2, 1) := by decide +kernel
theorem dX10_good_66 : decode cX10_good 66 = .ok (.ireturn, 1) := by decide +kernel
theorem dX10_next_0 : decode cX10_next 0 = .ok (.iload_n 1, 1) := by decide +kernel
theorem dX10_next_1 : decode cX10_next 1 = .ok (.i2l, 1) := by decide +kernel
theorem dX10_next_2 : decode cX10_next 2 = .ok (.lconst 0, 1) := by decide +kernel
theorem dX10_next_3 : decode cX10_next 3 = .ok (.lconst 1, 1) := by decide +kernel
theorem dX10_next_4 : decode cX10_next 4 = .ok (.invokestatic 79, 3) := by decide +kernel
theorem dX10_next_7 : decode cX10_next 7 = .ok (.ifCond .ne 6, 3) := by decide +kernel
theorem dX10_next_10 : decode cX10_next 10 = .ok (.bipush (-2), 2) := by decide +kernel
theorem dX10_next_12 : decode cX10_next 12 = .ok (.ireturn, 1) := by decide +kernel
theorem dX10_next_13 : decode cX10_next 13 = .ok (.iconst (-1), 1) := by decide +kernel
theorem dX10_next_14 : decode cX10_next 14 = .ok (.istore_n 2, 1) := by decide +kernel
theorem dX10_next_15 : decode cX10_next 15 = .ok (.aload_n 0, 1) := by decide +kernel
theorem dX10_next_16 : decode cX10_next 16 = .ok (.iconst (-1), 1) := by decide +kernel
theorem dX10_next_17 : decode cX10_next 17 = .ok (.invokevirtual 279, 3) := by decide +kernel
theorem dX10_next_20 : decode cX10_next 20 = .ok (.istore_n 3, 1) := by decide +kernel
theorem dX10_next_21 : decode cX10_next 21 = .ok (.iconst 0, 1) := by decide +kernel
theorem dX10_next_22 : decode cX10_next 22 = .ok (.istore 4, 2) := by decide +kernel
theorem dX10_next_24 : decode cX10_next 24 = .ok (.iload 4, 2) := by decide +kernel
theorem dX10_next_26 : decode cX10_next 26 = .ok (.aload_n 0, 1) := by decide +kernel
theorem dX10_next_27 : decode cX10_next 27 = .ok (.getfield 76, 3) := by decide +kernel
theorem dX10_next_30 : decode cX10_next 30 = .ok (.if_icmp .ge 52, 3) := by decide +kernel
theorem dX10_next_33 : decode cX10_next 33 = .ok (.aload_n 0, 1) := by decide +kernel
theorem dX10_next_34 : decode cX10_next 34 = .ok (.iload 4, 2) := by decide +kernel
theorem dX10_next_36 : decode cX10_next 36 = .ok (.invokevirtual 293, 3) := by decide +kernel
theorem dX10_next_39 : decode cX10_next 39 = .ok (.ifCond .eq 37, 3) := by decide +kernel
theorem dX10_next_42 : decode cX10_next 42 = .ok (.aload_n 0, 1) := by decide +kernel
theorem dX10_next_43 : decode cX10_next 43 = .ok (.iload 4, 2) := by decide +kernel
theorem dX10_next_45 : decode cX10_next 45 = .ok (.invokevirtual 265, 3) := by decide +kernel
theorem dX10_next_48 : decode cX10_next 48 = .ok (.aload_n 0, 1) := by decide +kernel
theorem dX10_next_49 : decode cX10_next 49 = .ok (.iconst (-1), 1) := by decide +kernel
theorem dX10_next_50 : decode cX10_next 50 = .ok (.invokevirtual 279, 3) := by decide +kernel
theorem dX10_next_53 : decode cX10_next 53 = .ok (.istore 5, 2) := by decide +kernel
theorem dX10_next_55 : decode cX10_next 55 = .ok (.aload_n 0, 1) := by decide +kernel
theorem dX10_next_56 : decode cX10_next 56 = .ok (.invokevirtual 296, 3) := by decide +kernel
theorem dX10_next_59 : decode cX10_next 59 = .ok (.iload_n 2, 1) := by decide +kernel
theorem dX10_next_60 : decode cX10_next 60 = .ok (.iconst (-1), 1) := by decide +kernel
theorem dX10_next_61 : decode cX10_next 61 = .ok (.if_icmp .eq 9, 3) := by decide +kernel
theorem dX10_next_64 : decode cX10_next 64 = .ok (.iload 5, 2) := by decide +kernel
theorem dX10_next_66 : decode cX10_next 66 = .ok (.iload_n 3, 1) := by decide +kernel
theorem dX10_next_67 : decode cX10_next 67 = .ok (.if_icmp .ge 9, 3) := by decide +kernel
theorem dX10_next_70 : decode cX10_next 70 = .ok (.iload 4, 2) := by decide +kernel
theorem dX10_next_72 : decode cX10_next 72 = .ok (.istore_n 2, 1) := by decide +kernel
theorem dX10_next_73 : decode cX10_next 73 = .ok (.iload 5, 2) := by decide +kernel
theorem dX10_next_75 : decode cX10_next 75 = .ok (.istore_n 3, 1) := by decide +kernel
theorem dX10_next_76 : decode cX10_next 76 = .ok (.iinc 4 1, 3) := by decide +kernel
theorem dX10_next_79 : decode cX10_next 79 = .ok (.goto (-55), 3) := by decide +kernel
theorem dX10_next_82 : decode cX10_next 82 = .ok (.iload_n 1, 1) := by decide +kernel
theorem dX10_next_83 : decode cX10_next 83 = .ok (.ifCond .ne 7, 3) := by decide +kernel
theorem dX10_next_86 : decode cX10_next 86 = .ok (.iload_n 2, 1) := by decide +kernel
theorem dX10_next_87 : decode cX10_next 87 = .ok (.goto 4, 3) := by decide +kernel
theorem dX10_next_90 : decode cX10_next 90 = .ok (.iload_n 3, 1) := by decide +kernel
theorem dX10_next_91 : decode cX10_next 91 = .ok (.ireturn, 1) := by decide +kernel
theorem dX10_howMany_0 : decode cX10_howMany 0 = .ok (.aload_n 0, 1) := by decide +kernel
theorem dX10_howMany_1 : decode cX10_howMany 1 = .ok (.iload_n 1, 1) := by decide +kernel
theorem dX10_howMany_2 : decode cX10_howMany 2 = .ok (.invokevirtual 85, 3) := by decide +kernel
theorem dX10_howMany_5 : decode cX10_howMany 5 = .ok (.ifCond .ne 6, 3) := by decide +kernel
theorem dX10_howMany_8 : decode cX10_howMany 8 = .ok (.bipush (-2), 2) := by decide +kernel
theorem dX10_howMany_10 : decode cX10_howMany 10 = .ok (.ireturn, 1) := by decide +kernel
theorem dX10_howMany_11 : decode cX10_howMany 11 = .ok (.iconst 0, 1) := by decide +kernel
theorem dX10_howMany_12 : decode cX10_howMany 12 = .ok (.istore_n 2, 1) := by decide +kernel
theorem dX10_howMany_13 : decode cX10_howMany 13 = .ok (.aload_n 0, 1) := by decide +kernel
theorem dX10_howMany_14 : decode cX10_howMany 14 = .ok (.iload_n 1, 1) := by decide +kernel
theorem dX10_howMany_15 : decode cX10_howMany 15 = .ok (.invokevirtual 293, 3) := by decide +kernel
theorem dX10_howMany_18 : decode cX10_howMany 18 = .ok (.ifCond .eq 14, 3) := by decide +kernel
theorem dX10_howMany_21 : decode cX10_howMany 21 = .ok (.aload_n 0, 1) := by decide +kernel
theorem dX10_howMany_22 : decode cX10_howMany 22 = .ok (.iload_n 1, 1) := by decide +kernel
theorem dX10_howMany_23 : decode cX10_howMany 23 = .ok (.invokevirtual 265, 3) := by decide +kernel
theorem dX10_howMany_26 : decode cX10_howMany 26 = .ok (.iinc 2 1, 3) := by decide +kernel
theorem dX10_howMany_29 : decode cX10_howMany 29 = .ok (.goto (-16), 3) := by decide +kernel
theorem dX10_howMany_32 : decode cX10_howMany 32 = .ok (.iconst 0, 1) := by decide +kernel
theorem dX10_howMany_33 : decode cX10_howMany 33 = .ok (.istore_n 3, 1) := by decide +kernel
theorem dX10_howMany_34 : decode cX10_howMany 34 = .ok (.iload_n 3, 1) := by decide +kernel
theorem dX10_howMany_35 : decode cX10_howMany 35 = .ok (.iload_n 2, 1) := by decide +kernel
theorem dX10_howMany_36 : decode cX10_howMany 36 = .ok (.if_icmp .ge 13, 3) := by decide +kernel
theorem dX10_howMany_39 : decode cX10_howMany 39 = .ok (.aload_n 0, 1) := by decide +kernel
theorem dX10_howMany_40 : decode cX10_howMany 40 = .ok (.invokevirtual 296, 3) := by decide +kernel
theorem dX10_howMany_43 : decode cX10_howMany 43 = .ok (.iinc 3 1, 3) := by decide +kernel
theorem dX10_howMany_46 : decode cX10_howMany 46 = .ok (.goto (-12), 3) := by decide +kernel
theorem dX10_howMany_49 : decode cX10_howMany 49 = .ok (.iload_n 2, 1) := by decide +kernel
theorem dX10_howMany_50 : decode cX10_howMany 50 = .ok (.ireturn, 1) := by decide +kernel
theorem dX10_seeks_0 : decode cX10_seeks 0 = .ok (.iload_n 2, 1) := by decide +kernel
theorem dX10_seeks_1 : decode cX10_seeks 1 = .ok (.iconst 1, 1) := by decide +kernel
theorem dX10_seeks_2 : decode cX10_seeks 2 = .ok (.aload_n 0, 1) := by decide +kernel
theorem dX10_seeks_3 : decode cX10_seeks 3 = .ok (.getfield 63, 3) := by decide +kernel
theorem dX10_seeks_6 : decode cX10_seeks 6 = .ok (.iload_n 1, 1) := by decide +kernel
theorem dX10_seeks_7 : decode cX10_seeks 7 = .ok (.iaload, 1) := by decide +kernel
theorem dX10_seeks_8 : decode cX10_seeks 8 = .ok (.ishl, 1) := by decide +kernel
theorem dX10_seeks_9 : decode cX10_seeks 9 = .ok (.iconst 1, 1) := by decide +kernel
theorem dX10_seeks_10 : decode cX10_seeks 10 = .ok (.isub, 1) := by decide +kernel
theorem dX10_seeks_11 : decode cX10_seeks 11 = .ok (.if_icmp .ne 38, 3) := by decide +kernel
theorem dX10_seeks_14 : decode cX10_seeks 14 = .ok (.aload_n 0, 1) := by decide +kernel
theorem dX10_seeks_15 : decode cX10_seeks 15 = .ok (.iconst (-1), 1) := by decide +kernel
theorem dX10_seeks_16 : decode cX10_seeks 16 = .ok (.invokevirtual 279, 3) := by decide +kernel
theorem dX10_seeks_19 : decode cX10_seeks 19 = .ok (.istore 4, 2) := by decide +kernel
theorem dX10_seeks_21 : decode cX10_seeks 21 = .ok (.aload_n 0, 1) := by decide +kernel
theorem dX10_seeks_22 : decode cX10_seeks 22 = .ok (.getfield 299, 3) := by decide +kernel
theorem dX10_seeks_25 : decode cX10_seeks 25 = .ok (.ifCond .eq 12, 3) := by decide +kernel
theorem dX10_seeks_28 : decode cX10_seeks 28 = .ok (.iload 4, 2) := by decide +kernel
theorem dX10_seeks_30 : decode cX10_seeks 30 = .ok (.aload_n 0, 1) := by decide +kernel
theorem dX10_seeks_31 : decode cX10_seeks 31 = .ok (.getfield 302, 3) := by decide +kernel
theorem dX10_seeks_34 : decode cX10_seeks 34 = .ok (.if_icmp .ge 14, 3) := by decide +kernel
theorem dX10_seeks_37 : decode cX10_seeks 37 = .ok (.aload_n 0, 1) := by decide +kernel
theorem dX10_seeks_38 : decode cX10_seeks 38 = .ok (.iload_n 3, 1) := by decide +kernel
theorem dX10_seeks_39 : decode cX10_seeks 39 = .ok (.putfield 299, 3) := by decide +kernel
theorem dX10_seeks_42 : decode cX10_seeks 42 = .ok (.aload_n 0, 1) := by decide +kernel
theorem dX10_seeks_43 : decode cX10_seeks 43 = .ok (.iload 4, 2) := by decide +kernel
theorem dX10_seeks_45 : decode cX10_seeks 45 = .ok (.putfield 302, 3) := by decide +kernel
theorem dX10_seeks_48 : decode cX10_seeks 48 = .ok (.return_, 1) := by decide +kernel
theorem dX10_seeks_49 : decode cX10_seeks 49 = .ok (.iconst 0, 1) := by decide +kernel
theorem dX10_seeks_50 : decode cX10_seeks 50 = .ok (.istore 4, 2) := by decide +kernel
theorem dX10_seeks_52 : decode cX10_seeks 52 = .ok (.iload 4, 2) := by decide +kernel
theorem dX10_seeks_54 : decode cX10_seeks 54 = .ok (.aload_n 0, 1) := by decide +kernel
theorem dX10_seeks_55 : decode cX10_seeks 55 = .ok (.getfield 63, 3) := by decide +kernel
theorem dX10_seeks_58 : decode cX10_seeks 58 = .ok (.iload_n 1, 1) := by decide +kernel
theorem dX10_seeks_59 : decode cX10_seeks 59 = .ok (.iaload, 1) := by decide +kernel
theorem dX10_seeks_60 : decode cX10_seeks 60 = .ok (.if_icmp .ge 80, 3) := by decide +kernel
theorem dX10_seeks_63 : decode cX10_seeks 63 = .ok (.iload_n 2, 1) := by decide +kernel
theorem dX10_seeks_64 : decode cX10_seeks 64 = .ok (.iload 4, 2) := by decide +kernel
theorem dX10_seeks_66 : decode cX10_seeks 66 = .ok (.ishr, 1) := by decide +kernel
theorem dX10_seeks_67 : decode cX10_seeks 67 = .ok (.iconst 1, 1) := by decide +kernel
theorem dX10_seeks_68 : decode cX10_seeks 68 = .ok (.iand, 1) := by decide +kernel
theorem dX10_seeks_69 : decode cX10_seeks 69 = .ok (.ifCond .ne 65, 3) := by decide +kernel
theorem dX10_seeks_72 : decode cX10_seeks 72 = .ok (.aload_n 0, 1) := by decide +kernel
theorem dX10_seeks_73 : decode cX10_seeks 73 = .ok (.getfield 66, 3) := by decide +kernel
theorem dX10_seeks_76 : decode cX10_seeks 76 = .ok (.bipush 40, 2) := by decide +kernel
theorem dX10_seeks_78 : decode cX10_seeks 78 = .ok (.iload_n 1, 1) := by decide +kernel
theorem dX10_seeks_79 : decode cX10_seeks 79 = .ok (.imul, 1) := by decide +kernel
theorem dX10_seeks_80 : decode cX10_seeks 80 = .ok (.iload 4, 2) := by decide +kernel
theorem dX10_seeks_82 : decode cX10_seeks 82 = .ok (.iadd, 1) := by decide +kernel
theorem dX10_seeks_83 : decode cX10_seeks 83 = .ok (.iaload, 1) := by decide +kernel
theorem dX10_seeks_84 : decode cX10_seeks 84 = .ok (.istore 5, 2) := by decide +kernel
theorem dX10_seeks_86 : decode cX10_seeks 86 = .ok (.aload_n 0, 1) := by decide +kernel
theorem dX10_seeks_87 : decode cX10_seeks 87 = .ok (.iload 5, 2) := by decide +kernel
theorem dX10_seeks_89 : decode cX10_seeks 89 = .ok (.invokevirtual 293, 3) := by decide +kernel
theorem dX10_seeks_92 : decode cX10_seeks 92 = .ok (.istore 6, 2) := by decide +kernel
theorem dX10_seeks_94 : decode cX10_seeks 94 = .ok (.iload 6, 2) := by decide +kernel
theorem dX10_seeks_96 : decode cX10_seeks 96 = .ok (.ifCond .eq 9, 3) := by decide +kernel
theorem dX10_seeks_99 : decode cX10_seeks 99 = .ok (.aload_n 0, 1) := by decide +kernel
theorem dX10_seeks_100 : decode cX10_seeks 100 = .ok (.iload 5, 2) := by decide +kernel
theorem dX10_seeks_102 : decode cX10_seeks 102 = .ok (.invokevirtual 265, 3) := by decide +kernel
theorem dX10_seeks_105 : decode cX10_seeks 105 = .ok (.aload_n 0, 1) := by decide +kernel
theorem dX10_seeks_106 : decode cX10_seeks 106 = .ok (.iload_n 1, 1) := by decide +kernel
theorem dX10_seeks_107 : decode cX10_seeks 107 = .ok (.iload_n 2, 1) := by decide +kernel
theorem dX10_seeks_108 : decode cX10_seeks 108 = .ok (.iconst 1, 1) := by decide +kernel
theorem dX10_seeks_109 : decode cX10_seeks 109 = .ok (.iload 4, 2) := by decide +kernel
theorem dX10_seeks_111 : decode cX10_seeks 111 = .ok (.ishl, 1) := by decide +kernel
theorem dX10_seeks_112 : decode cX10_seeks 112 = .ok (.ior, 1) := by decide +kernel
theorem dX10_seeks_113 : decode cX10_seeks 113 = .ok (.bipush 10, 2) := by decide +kernel
theorem dX10_seeks_115 : decode cX10_seeks 115 = .ok (.iload_n 3, 1) := by decide +kernel
theorem dX10_seeks_116 : decode cX10_seeks 116 = .ok (.imul, 1) := by decide +kernel
theorem dX10_seeks_117 : decode cX10_seeks 117 = .ok (.iload 4, 2) := by decide +kernel
theorem dX10_seeks_119 : decode cX10_seeks 119 = .ok (.iadd, 1) := by decide +kernel
theorem dX10_seeks_120 : decode cX10_seeks 120 = .ok (.iconst 1, 1) := by decide +kernel
theorem dX10_seeks_121 : decode cX10_seeks 121 = .ok (.iadd, 1) := by decide +kernel
theorem dX10_seeks_122 : decode cX10_seeks 122 = .ok (.invokevirtual 305, 3) := by decide +kernel
theorem dX10_seeks_125 : decode cX10_seeks 125 = .ok (.iload 6, 2) := by decide +kernel
theorem dX10_seeks_127 : decode cX10_seeks 127 = .ok (.ifCond .eq 7, 3) := by decide +kernel
theorem dX10_seeks_130 : decode cX10_seeks 130 = .ok (.aload_n 0, 1) := by decide +kernel
theorem dX10_seeks_131 : decode cX10_seeks 131 = .ok (.invokevirtual 296, 3) := by decide +kernel
theorem dX10_seeks_134 : decode cX10_seeks 134 = .ok (.iinc 4 1, 3) := by decide +kernel
theorem dX10_seeks_137 : decode cX10_seeks 137 = .ok (.goto (-85), 3) := by decide +kernel
theorem dX10_seeks_140 : decode cX10_seeks 140 = .ok (.return_, 1) := by decide +kernel
theorem dX10_isOrder_0 : decode cX10_isOrder 0 = .ok (.aload_n 0, 1) := by decide +kernel
theorem dX10_isOrder_1 : decode cX10_isOrder 1 = .ok (.getfield 63, 3) := by decide +kernel
theorem dX10_isOrder_4 : decode cX10_isOrder 4 = .ok (.iload_n 1, 1) := by decide +kernel
theorem dX10_isOrder_5 : decode cX10_isOrder 5 = .ok (.iaload, 1) := by decide +kernel
theorem dX10_isOrder_6 : decode cX10_isOrder 6 = .ok (.i2l, 1) := by decide +kernel
theorem dX10_isOrder_7 : decode cX10_isOrder 7 = .ok (.lconst 1, 1) := by decide +kernel
theorem dX10_isOrder_8 : decode cX10_isOrder 8 = .ok (.ldc2_w 308, 3) := by decide +kernel
theorem dX10_isOrder_11 : decode cX10_isOrder 11 = .ok (.invokestatic 79, 3) := by decide +kernel
theorem dX10_isOrder_14 : decode cX10_isOrder 14 = .ok (.ifCond .ne 5, 3) := by decide +kernel
theorem dX10_isOrder_17 : decode cX10_isOrder 17 = .ok (.iconst 0, 1) := by decide +kernel
theorem dX10_isOrder_18 : decode cX10_isOrder 18 = .ok (.ireturn, 1) := by decide +kernel
theorem dX10_isOrder_19 : decode cX10_isOrder 19 = .ok (.iconst 0, 1) := by decide +kernel
theorem dX10_isOrder_20 : decode cX10_isOrder 20 = .ok (.istore_n 2, 1) := by decide +kernel
theorem dX10_isOrder_21 : decode cX10_isOrder 21 = .ok (.iload_n 2, 1) := by decide +kernel
theorem dX10_isOrder_22 : decode cX10_isOrder 22 = .ok (.aload_n 0, 1) := by decide +kernel
theorem dX10_isOrder_23 : decode cX10_isOrder 23 = .ok (.getfield 63, 3) := by decide +kernel
theorem dX10_isOrder_26 : decode cX10_isOrder 26 = .ok (.iload_n 1, 1) := by decide +kernel
theorem dX10_isOrder_27 : decode cX10_isOrder 27 = .ok (.iaload, 1) := by decide +kernel
theorem dX10_isOrder_28 : decode cX10_isOrder 28 = .ok (.if_icmp .ge 29, 3) := by decide +kernel
theorem dX10_isOrder_31 : decode cX10_isOrder 31 = .ok (.aload_n 0, 1) := by decide +kernel
theorem dX10_isOrder_32 : decode cX10_isOrder 32 = .ok (.aload_n 0, 1) := by decide +kernel
theorem dX10_isOrder_33 : decode cX10_isOrder 33 = .ok (.getfield 66, 3) := by decide +kernel
theorem dX10_isOrder_36 : decode cX10_isOrder 36 = .ok (.bipush 40, 2) := by decide +kernel
theorem dX10_isOrder_38 : decode cX10_isOrder 38 = .ok (.iload_n 1, 1) := by decide +kernel
theorem dX10_isOrder_39 : decode cX10_isOrder 39 = .ok (.imul, 1) := by decide +kernel
theorem dX10_isOrder_40 : decode cX10_isOrder 40 = .ok (.iload_n 2, 1) := by decide +kernel
theorem dX10_isOrder_41 : decode cX10_isOrder 41 = .ok (.iadd, 1) := by decide +kernel
theorem dX10_isOrder_42 : decode cX10_isOrder 42 = .ok (.iaload, 1) := by decide +kernel
theorem dX10_isOrder_43 : decode cX10_isOrder 43 = .ok (.invokevirtual 85, 3) := by decide +kernel
theorem dX10_isOrder_46 : decode cX10_isOrder 46 = .ok (.ifCond .ne 5, 3) := by decide +kernel
theorem dX10_isOrder_49 : decode cX10_isOrder 49 = .ok (.iconst 0, 1) := by decide +kernel
theorem dX10_isOrder_50 : decode cX10_isOrder 50 = .ok (.ireturn, 1) := by decide +kernel
theorem dX10_isOrder_51 : decode cX10_isOrder 51 = .ok (.iinc 2 1, 3) := by decide +kernel
theorem dX10_isOrder_54 : decode cX10_isOrder 54 = .ok (.goto (-33), 3) := by decide +kernel
theorem dX10_isOrder_57 : decode cX10_isOrder 57 = .ok (.iconst 1, 1) := by decide +kernel
theorem dX10_isOrder_58 : decode cX10_isOrder 58 = .ok (.ireturn, 1) := by decide +kernel
theorem dX10_order_0 : decode cX10_order 0 = .ok (.iload_n 1, 1) := by decide +kernel
theorem dX10_order_1 : decode cX10_order 1 = .ok (.invokestatic 310, 3) := by decide +kernel
theorem dX10_order_4 : decode cX10_order 4 = .ok (.ifCond .eq 13, 3) := by decide +kernel
theorem dX10_order_7 : decode cX10_order 7 = .ok (.iload_n 2, 1) := by decide +kernel
theorem dX10_order_8 : decode cX10_order 8 = .ok (.i2l, 1) := by decide +kernel
theorem dX10_order_9 : decode cX10_order 9 = .ok (.lconst 0, 1) := by decide +kernel
theorem dX10_order_10 : decode cX10_order 10 = .ok (.lconst 1, 1) := by decide +kernel
theorem dX10_order_11 : decode cX10_order 11 = .ok (.invokestatic 79, 3) := by decide +kernel
theorem dX10_order_14 : decode cX10_order 14 = .ok (.ifCond .ne 6, 3) := by decide +kernel
theorem dX10_order_17 : decode cX10_order 17 = .ok (.bipush (-2), 2) := by decide +kernel
theorem dX10_order_19 : decode cX10_order 19 = .ok (.ireturn, 1) := by decide +kernel
theorem dX10_order_20 : decode cX10_order 20 = .ok (.aload_n 0, 1) := by decide +kernel
theorem dX10_order_21 : decode cX10_order 21 = .ok (.getfield 56, 3) := by decide +kernel
theorem dX10_order_24 : decode cX10_order 24 = .ok (.iload_n 1, 1) := by decide +kernel
theorem dX10_order_25 : decode cX10_order 25 = .ok (.baload, 1) := by decide +kernel
theorem dX10_order_26 : decode cX10_order 26 = .ok (.ifCond .ne 6, 3) := by decide +kernel
theorem dX10_order_29 : decode cX10_order 29 = .ok (.bipush (-11), 2) := by decide +kernel
theorem dX10_order_31 : decode cX10_order 31 = .ok (.ireturn, 1) := by decide +kernel
theorem dX10_order_32 : decode cX10_order 32 = .ok (.aload_n 0, 1) := by decide +kernel
theorem dX10_order_33 : decode cX10_order 33 = .ok (.iload_n 1, 1) := by decide +kernel
theorem dX10_order_34 : decode cX10_order 34 = .ok (.invokevirtual 313, 3) := by decide +kernel
theorem dX10_order_37 : decode cX10_order 37 = .ok (.ifCond .ne 6, 3) := by decide +kernel
theorem dX10_order_40 : decode cX10_order 40 = .ok (.bipush (-2), 2) := by decide +kernel
theorem dX10_order_42 : decode cX10_order 42 = .ok (.ireturn, 1) := by decide +kernel
theorem dX10_order_43 : decode cX10_order 43 = .ok (.aload_n 0, 1) := by decide +kernel
theorem dX10_order_44 : decode cX10_order 44 = .ok (.iconst 0, 1) := by decide +kernel
theorem dX10_order_45 : decode cX10_order 45 = .ok (.putfield 299, 3) := by decide +kernel
theorem dX10_order_48 : decode cX10_order 48 = .ok (.aload_n 0, 1) := by decide +kernel
theorem dX10_order_49 : decode cX10_order 49 = .ok (.iconst 0, 1) := by decide +kernel
theorem dX10_order_50 : decode cX10_order 50 = .ok (.putfield 302, 3) := by decide +kernel
theorem dX10_order_53 : decode cX10_order 53 = .ok (.aload_n 0, 1) := by decide +kernel
theorem dX10_order_54 : decode cX10_order 54 = .ok (.iload_n 1, 1) := by decide +kernel
theorem dX10_order_55 : decode cX10_order 55 = .ok (.iconst 0, 1) := by decide +kernel
theorem dX10_order_56 : decode cX10_order 56 = .ok (.iconst 0, 1) := by decide +kernel
theorem dX10_order_57 : decode cX10_order 57 = .ok (.invokevirtual 305, 3) := by decide +kernel
theorem dX10_order_60 : decode cX10_order 60 = .ok (.iload_n 2, 1) := by decide +kernel
theorem dX10_order_61 : decode cX10_order 61 = .ok (.ifCond .ne 10, 3) := by decide +kernel
theorem dX10_order_64 : decode cX10_order 64 = .ok (.aload_n 0, 1) := by decide +kernel
theorem dX10_order_65 : decode cX10_order 65 = .ok (.getfield 302, 3) := by decide +kernel
theorem dX10_order_68 : decode cX10_order 68 = .ok (.goto 7, 3) := by decide +kernel
theorem dX10_order_71 : decode cX10_order 71 = .ok (.aload_n 0, 1) := by decide +kernel
theorem dX10_order_72 : decode cX10_order 72 = .ok (.getfield 299, 3) := by decide +kernel
theorem dX10_order_75 : decode cX10_order 75 = .ok (.ireturn, 1) := by decide +kernel
theorem dX10_forMoney_0 : decode cX10_forMoney 0 = .ok (.iload_n 1, 1) := by decide +kernel
theorem dX10_forMoney_1 : decode cX10_forMoney 1 = .ok (.i2l, 1) := by decide +kernel
theorem dX10_forMoney_2 : decode cX10_forMoney 2 = .ok (.lconst 0, 1) := by decide +kernel
theorem dX10_forMoney_3 : decode cX10_forMoney 3 = .ok (.ldc2_w 316, 3) := by decide +kernel
theorem dX10_forMoney_6 : decode cX10_forMoney 6 = .ok (.invokestatic 79, 3) := by decide +kernel
theorem dX10_forMoney_9 : decode cX10_forMoney 9 = .ok (.ifCond .ne 6, 3) := by decide +kernel
theorem dX10_forMoney_12 : decode cX10_forMoney 12 = .ok (.bipush (-2), 2) := by decide +kernel
theorem dX10_forMoney_14 : decode cX10_forMoney 14 = .ok (.ireturn, 1) := by decide +kernel
theorem dX10_forMoney_15 : decode cX10_forMoney 15 = .ok (.iconst 0, 1) := by decide +kernel
theorem dX10_forMoney_16 : decode cX10_forMoney 16 = .ok (.istore_n 2, 1) := by decide +kernel
theorem dX10_forMoney_17 : decode cX10_forMoney 17 = .ok (.iload_n 2, 1) := by decide +kernel
theorem dX10_forMoney_18 : decode cX10_forMoney 18 = .ok (.aload_n 0, 1) := by decide +kernel
theorem dX10_forMoney_19 : decode cX10_forMoney 19 = .ok (.getfield 76, 3) := by decide +kernel
theorem dX10_forMoney_22 : decode cX10_forMoney 22 = .ok (.if_icmp .ge 25, 3) := by decide +kernel
theorem dX10_forMoney_25 : decode cX10_forMoney 25 = .ok (.aload_n 0, 1) := by decide +kernel
theorem dX10_forMoney_26 : decode cX10_forMoney 26 = .ok (.iload_n 2, 1) := by decide +kernel
theorem dX10_forMoney_27 : decode cX10_forMoney 27 = .ok (.invokevirtual 114, 3) := by decide +kernel
theorem dX10_forMoney_30 : decode cX10_forMoney 30 = .ok (.aload_n 0, 1) := by decide +kernel
theorem dX10_forMoney_31 : decode cX10_forMoney 31 = .ok (.getfield 38, 3) := by decide +kernel
theorem dX10_forMoney_34 : decode cX10_forMoney 34 = .ok (.iload_n 2, 1) := by decide +kernel
theorem dX10_forMoney_35 : decode cX10_forMoney 35 = .ok (.aload_n 0, 1) := by decide +kernel
theorem dX10_forMoney_36 : decode cX10_forMoney 36 = .ok (.iload_n 2, 1) := by decide +kernel
theorem dX10_forMoney_37 : decode cX10_forMoney 37 = .ok (.invokevirtual 121, 3) := by decide +kernel
theorem dX10_forMoney_40 : decode cX10_forMoney 40 = .ok (.iastore, 1) := by decide +kernel
theorem dX10_forMoney_41 : decode cX10_forMoney 41 = .ok (.iinc 2 1, 3) := by decide +kernel
theorem dX10_forMoney_44 : decode cX10_forMoney 44 = .ok (.goto (-27), 3) := by decide +kernel
theorem dX10_forMoney_47 : decode cX10_forMoney 47 = .ok (.iload_n 1, 1) := by decide +kernel
theorem dX10_forMoney_48 : decode cX10_forMoney 48 = .ok (.istore_n 2, 1) := by decide +kernel
theorem dX10_forMoney_49 : decode cX10_forMoney 49 = .ok (.iconst 0, 1) := by decide +kernel
theorem dX10_forMoney_50 : decode cX10_forMoney 50 = .ok (.istore_n 3, 1) := by decide +kernel
theorem dX10_forMoney_51 : decode cX10_forMoney 51 = .ok (.iconst 0, 1) := by decide +kernel
theorem dX10_forMoney_52 : decode cX10_forMoney 52 = .ok (.istore 4, 2) := by decide +kernel
theorem dX10_forMoney_54 : decode cX10_forMoney 54 = .ok (.iconst 0, 1) := by decide +kernel
theorem dX10_forMoney_55 : decode cX10_forMoney 55 = .ok (.istore 5, 2) := by decide +kernel
theorem dX10_forMoney_57 : decode cX10_forMoney 57 = .ok (.iload 5, 2) := by decide +kernel
theorem dX10_forMoney_59 : decode cX10_forMoney 59 = .ok (.aload_n 0, 1) := by decide +kernel
theorem dX10_forMoney_60 : decode cX10_forMoney 60 = .ok (.getfield 76, 3) := by decide +kernel
theorem dX10_forMoney_63 : decode cX10_forMoney 63 = .ok (.if_icmp .ge 149, 3) := by decide +kernel
theorem dX10_forMoney_66 : decode cX10_forMoney 66 = .ok (.iconst (-1), 1) := by decide +kernel
theorem dX10_forMoney_67 : decode cX10_forMoney 67 = .ok (.istore 6, 2) := by decide +kernel
theorem dX10_forMoney_69 : decode cX10_forMoney 69 = .ok (.iconst 0, 1) := by decide +kernel
theorem dX10_forMoney_70 : decode cX10_forMoney 70 = .ok (.istore 7, 2) := by decide +kernel
theorem dX10_forMoney_72 : decode cX10_forMoney 72 = .ok (.iload 7, 2) := by decide +kernel
theorem dX10_forMoney_74 : decode cX10_forMoney 74 = .ok (.aload_n 0, 1) := by decide +kernel
theorem dX10_forMoney_75 : decode cX10_forMoney 75 = .ok (.getfield 76, 3) := by decide +kernel
theorem dX10_forMoney_78 : decode cX10_forMoney 78 = .ok (.if_icmp .ge 46, 3) := by decide +kernel
theorem dX10_forMoney_81 : decode cX10_forMoney 81 = .ok (.iload 4, 2) := by decide +kernel
theorem dX10_forMoney_83 : decode cX10_forMoney 83 = .ok (.iload 7, 2) := by decide +kernel
theorem dX10_forMoney_85 : decode cX10_forMoney 85 = .ok (.ishr, 1) := by decide +kernel
theorem dX10_forMoney_86 : decode cX10_forMoney 86 = .ok (.iconst 1, 1) := by decide +kernel
theorem dX10_forMoney_87 : decode cX10_forMoney 87 = .ok (.iand, 1) := by decide +kernel
theorem dX10_forMoney_88 : decode cX10_forMoney 88 = .ok (.ifCond .ne 30, 3) := by decide +kernel
theorem dX10_forMoney_91 : decode cX10_forMoney 91 = .ok (.iload 6, 2) := by decide +kernel
theorem dX10_forMoney_93 : decode cX10_forMoney 93 = .ok (.iconst (-1), 1) := by decide +kernel
theorem dX10_forMoney_94 : decode cX10_forMoney 94 = .ok (.if_icmp .eq 20, 3) := by decide +kernel
theorem dX10_forMoney_97 : decode cX10_forMoney 97 = .ok (.aload_n 0, 1) := by decide +kernel
theorem dX10_forMoney_98 : decode cX10_forMoney 98 = .ok (.getfield 38, 3) := by decide +kernel
theorem dX10_forMoney_101 : decode cX10_forMoney 101 = .ok (.iload 7, 2) := by decide +kernel
theorem dX10_forMoney_103 : decode cX10_forMoney 103 = .ok (.iaload, 1) := by decide +kernel
theorem dX10_forMoney_104 : decode cX10_forMoney 104 = .ok (.aload_n 0, 1) := by decide +kernel
theorem dX10_forMoney_105 : decode cX10_forMoney 105 = .ok (.getfield 38, 3) := by decide +kernel
theorem dX10_forMoney_108 : decode cX10_forMoney 108 = .ok (.iload 6, 2) := by decide +kernel
theorem dX10_forMoney_110 : decode cX10_forMoney 110 = .ok (.iaload, 1) := by decide +kernel
theorem dX10_forMoney_111 : decode cX10_forMoney 111 = .ok (.if_icmp .ge 7, 3) := by decide +kernel
theorem dX10_forMoney_114 : decode cX10_forMoney 114 = .ok (.iload 7, 2) := by decide +kernel
theorem dX10_forMoney_116 : decode cX10_forMoney 116 = .ok (.istore 6, 2) := by decide +kernel
theorem dX10_forMoney_118 : decode cX10_forMoney 118 = .ok (.iinc 7 1, 3) := by decide +kernel
theorem dX10_forMoney_121 : decode cX10_forMoney 121 = .ok (.goto (-49), 3) := by decide +kernel
theorem dX10_forMoney_124 : decode cX10_forMoney 124 = .ok (.iload 4, 2) := by decide +kernel
theorem dX10_forMoney_126 : decode cX10_forMoney 126 = .ok (.iconst 1, 1) := by decide +kernel
theorem dX10_forMoney_127 : decode cX10_forMoney 127 = .ok (.iload 6, 2) := by decide +kernel
theorem dX10_forMoney_129 : decode cX10_forMoney 129 = .ok (.ishl, 1) := by decide +kernel
theorem dX10_forMoney_130 : decode cX10_forMoney 130 = .ok (.ior, 1) := by decide +kernel
theorem dX10_forMoney_131 : decode cX10_forMoney 131 = .ok (.istore 4, 2) := by decide +kernel
theorem dX10_forMoney_133 : decode cX10_forMoney 133 = .ok (.aload_n 0, 1) := by decide +kernel
theorem dX10_forMoney_134 : decode cX10_forMoney 134 = .ok (.getfield 29, 3) := by decide +kernel
theorem dX10_forMoney_137 : decode cX10_forMoney 137 = .ok (.iconst 3, 1) := by decide +kernel
theorem dX10_forMoney_138 : decode cX10_forMoney 138 = .ok (.iload 6, 2) := by decide +kernel
theorem dX10_forMoney_140 : decode cX10_forMoney 140 = .ok (.imul, 1) := by decide +kernel
theorem dX10_forMoney_141 : decode cX10_forMoney 141 = .ok (.iconst 2, 1) := by decide +kernel
theorem dX10_forMoney_142 : decode cX10_forMoney 142 = .ok (.iadd, 1) := by decide +kernel
theorem dX10_forMoney_143 : decode cX10_forMoney 143 = .ok (.iaload, 1) := by decide +kernel
theorem dX10_forMoney_144 : decode cX10_forMoney 144 = .ok (.istore 7, 2) := by decide +kernel
theorem dX10_forMoney_146 : decode cX10_forMoney 146 = .ok (.aload_n 0, 1) := by decide +kernel
theorem dX10_forMoney_147 : decode cX10_forMoney 147 = .ok (.getfield 38, 3) := by decide +kernel
theorem dX10_forMoney_150 : decode cX10_forMoney 150 = .ok (.iload 6, 2) := by decide +kernel
theorem dX10_forMoney_152 : decode cX10_forMoney 152 = .ok (.iaload, 1) := by decide +kernel
theorem dX10_forMoney_153 : decode cX10_forMoney 153 = .ok (.ifCond .ne 8, 3) := by decide +kernel
theorem dX10_forMoney_156 : decode cX10_forMoney 156 = .ok (.iload 7, 2) := by decide +kernel
theorem dX10_forMoney_158 : decode cX10_forMoney 158 = .ok (.goto 12, 3) := by decide +kernel
theorem dX10_forMoney_161 : decode cX10_forMoney 161 = .ok (.iload_n 2, 1) := by decide +kernel
theorem dX10_forMoney_162 : decode cX10_forMoney 162 = .ok (.aload_n 0, 1) := by decide +kernel
theorem dX10_forMoney_163 : decode cX10_forMoney 163 = .ok (.getfield 38, 3) := by decide +kernel
theorem dX10_forMoney_166 : decode cX10_forMoney 166 = .ok (.iload 6, 2) := by decide +kernel
theorem dX10_forMoney_168 : decode cX10_forMoney 168 = .ok (.iaload, 1) := by decide +kernel
theorem dX10_forMoney_169 : decode cX10_forMoney 169 = .ok (.idiv, 1) := by decide +kernel
theorem dX10_forMoney_170 : decode cX10_forMoney 170 = .ok (.istore 8, 2) := by decide +kernel
theorem dX10_forMoney_172 : decode cX10_forMoney 172 = .ok (.iload 8, 2) := by decide +kernel
theorem dX10_forMoney_174 : decode cX10_forMoney 174 = .ok (.iload 7, 2) := by decide +kernel
theorem dX10_forMoney_176 : decode cX10_forMoney 176 = .ok (.if_icmp .ge 8, 3) := by decide +kernel
theorem dX10_forMoney_179 : decode cX10_forMoney 179 = .ok (.iload 8, 2) := by decide +kernel
theorem dX10_forMoney_181 : decode cX10_forMoney 181 = .ok (.goto 5, 3) := by decide +kernel
theorem dX10_forMoney_184 : decode cX10_forMoney 184 = .ok (.iload 7, 2) := by decide +kernel
theorem dX10_forMoney_186 : decode cX10_forMoney 186 = .ok (.istore 8, 2) := by decide +kernel
theorem dX10_forMoney_188 : decode cX10_forMoney 188 = .ok (.iload_n 3, 1) := by decide +kernel
theorem dX10_forMoney_189 : decode cX10_forMoney 189 = .ok (.iload 8, 2) := by decide +kernel
theorem dX10_forMoney_191 : decode cX10_forMoney 191 = .ok (.iadd, 1) := by decide +kernel
theorem dX10_forMoney_192 : decode cX10_forMoney 192 = .ok (.istore_n 3, 1) := by decide +kernel
theorem dX10_forMoney_193 : decode cX10_forMoney 193 = .ok (.iload_n 2, 1) := by decide +kernel
theorem dX10_forMoney_194 : decode cX10_forMoney 194 = .ok (.iload 8, 2) := by decide +kernel
theorem dX10_forMoney_196 : decode cX10_forMoney 196 = .ok (.aload_n 0, 1) := by decide +kernel
theorem dX10_forMoney_197 : decode cX10_forMoney 197 = .ok (.getfield 38, 3) := by decide +kernel
theorem dX10_forMoney_200 : decode cX10_forMoney 200 = .ok (.iload 6, 2) := by decide +kernel
theorem dX10_forMoney_202 : decode cX10_forMoney 202 = .ok (.iaload, 1) := by decide +kernel
theorem dX10_forMoney_203 : decode cX10_forMoney 203 = .ok (.imul, 1) := by decide +kernel
theorem dX10_forMoney_204 : decode cX10_forMoney 204 = .ok (.isub, 1) := by decide +kernel
theorem dX10_forMoney_205 : decode cX10_forMoney 205 = .ok (.istore_n 2, 1) := by decide +kernel
theorem dX10_forMoney_206 : decode cX10_forMoney 206 = .ok (.iinc 5 1, 3) := by decide +kernel
theorem dX10_forMoney_209 : decode cX10_forMoney 209 = .ok (.goto (-152), 3) := by decide +kernel
theorem dX10_forMoney_212 : decode cX10_forMoney 212 = .ok (.iload_n 3, 1) := by decide +kernel
theorem dX10_forMoney_213 : decode cX10_forMoney 213 = .ok (.ireturn, 1) := by decide +kernel
theorem dX10_worst_0 : decode cX10_worst 0 = .ok (.iload_n 1, 1) := by decide +kernel
theorem dX10_worst_1 : decode cX10_worst 1 = .ok (.i2l, 1) := by decide +kernel
theorem dX10_worst_2 : decode cX10_worst 2 = .ok (.lconst 0, 1) := by decide +kernel
theorem dX10_worst_3 : decode cX10_worst 3 = .ok (.lconst 1, 1) := by decide +kernel
theorem dX10_worst_4 : decode cX10_worst 4 = .ok (.invokestatic 79, 3) := by decide +kernel
theorem dX10_worst_7 : decode cX10_worst 7 = .ok (.ifCond .ne 6, 3) := by decide +kernel
theorem dX10_worst_10 : decode cX10_worst 10 = .ok (.bipush (-2), 2) := by decide +kernel
theorem dX10_worst_12 : decode cX10_worst 12 = .ok (.ireturn, 1) := by decide +kernel
theorem dX10_worst_13 : decode cX10_worst 13 = .ok (.aload_n 0, 1) := by decide +kernel
theorem dX10_worst_14 : decode cX10_worst 14 = .ok (.iconst (-1), 1) := by decide +kernel
theorem dX10_worst_15 : decode cX10_worst 15 = .ok (.invokevirtual 279, 3) := by decide +kernel
theorem dX10_worst_18 : decode cX10_worst 18 = .ok (.istore_n 2, 1) := by decide +kernel
theorem dX10_worst_19 : decode cX10_worst 19 = .ok (.iconst (-1), 1) := by decide +kernel
theorem dX10_worst_20 : decode cX10_worst 20 = .ok (.istore_n 3, 1) := by decide +kernel
theorem dX10_worst_21 : decode cX10_worst 21 = .ok (.iconst 0, 1) := by decide +kernel
theorem dX10_worst_22 : decode cX10_worst 22 = .ok (.istore 4, 2) := by decide +kernel
theorem dX10_worst_24 : decode cX10_worst 24 = .ok (.iload 4, 2) := by decide +kernel
theorem dX10_worst_26 : decode cX10_worst 26 = .ok (.aload_n 0, 1) := by decide +kernel
theorem dX10_worst_27 : decode cX10_worst 27 = .ok (.getfield 246, 3) := by decide +kernel
theorem dX10_worst_30 : decode cX10_worst 30 = .ok (.if_icmp .ge 29, 3) := by decide +kernel
theorem dX10_worst_33 : decode cX10_worst 33 = .ok (.aload_n 0, 1) := by decide +kernel
theorem dX10_worst_34 : decode cX10_worst 34 = .ok (.iload 4, 2) := by decide +kernel
theorem dX10_worst_36 : decode cX10_worst 36 = .ok (.invokevirtual 279, 3) := by decide +kernel
theorem dX10_worst_39 : decode cX10_worst 39 = .ok (.istore 5, 2) := by decide +kernel
theorem dX10_worst_41 : decode cX10_worst 41 = .ok (.iload 5, 2) := by decide +kernel
theorem dX10_worst_43 : decode cX10_worst 43 = .ok (.iload_n 2, 1) := by decide +kernel
theorem dX10_worst_44 : decode cX10_worst 44 = .ok (.if_icmp .ge 9, 3) := by decide +kernel
theorem dX10_worst_47 : decode cX10_worst 47 = .ok (.iload 4, 2) := by decide +kernel
theorem dX10_worst_49 : decode cX10_worst 49 = .ok (.istore_n 3, 1) := by decide +kernel
theorem dX10_worst_50 : decode cX10_worst 50 = .ok (.iload 5, 2) := by decide +kernel
theorem dX10_worst_52 : decode cX10_worst 52 = .ok (.istore_n 2, 1) := by decide +kernel
theorem dX10_worst_53 : decode cX10_worst 53 = .ok (.iinc 4 1, 3) := by decide +kernel
theorem dX10_worst_56 : decode cX10_worst 56 = .ok (.goto (-32), 3) := by decide +kernel
theorem dX10_worst_59 : decode cX10_worst 59 = .ok (.iload_n 1, 1) := by decide +kernel
theorem dX10_worst_60 : decode cX10_worst 60 = .ok (.ifCond .ne 7, 3) := by decide +kernel
theorem dX10_worst_63 : decode cX10_worst 63 = .ok (.iload_n 3, 1) := by decide +kernel
theorem dX10_worst_64 : decode cX10_worst 64 = .ok (.goto 4, 3) := by decide +kernel
theorem dX10_worst_67 : decode cX10_worst 67 = .ok (.iload_n 2, 1) := by decide +kernel
theorem dX10_worst_68 : decode cX10_worst 68 = .ok (.ireturn, 1) := by decide +kernel
theorem dX10_turnsFrom_0 : decode cX10_turnsFrom 0 = .ok (.aload_n 0, 1) := by decide +kernel
theorem dX10_turnsFrom_1 : decode cX10_turnsFrom 1 = .ok (.getfield 101, 3) := by decide +kernel
theorem dX10_turnsFrom_4 : decode cX10_turnsFrom 4 = .ok (.istore_n 3, 1) := by decide +kernel
theorem dX10_turnsFrom_5 : decode cX10_turnsFrom 5 = .ok (.iconst 0, 1) := by decide +kernel
theorem dX10_turnsFrom_6 : decode cX10_turnsFrom 6 = .ok (.istore 4, 2) := by decide +kernel
theorem dX10_turnsFrom_8 : decode cX10_turnsFrom 8 = .ok (.iload 4, 2) := by decide +kernel
theorem dX10_turnsFrom_10 : decode cX10_turnsFrom 10 = .ok (.iload_n 2, 1) := by decide +kernel
theorem dX10_turnsFrom_11 : decode cX10_turnsFrom 11 = .ok (.if_icmp .ge 99, 3) := by decide +kernel
theorem dX10_turnsFrom_14 : decode cX10_turnsFrom 14 = .ok (.aload_n 0, 1) := by decide +kernel
theorem dX10_turnsFrom_15 : decode cX10_turnsFrom 15 = .ok (.iload 4, 2) := by decide +kernel
theorem dX10_turnsFrom_17 : decode cX10_turnsFrom 17 = .ok (.putfield 188, 3) := by decide +kernel
theorem dX10_turnsFrom_20 : decode cX10_turnsFrom 20 = .ok (.aload_n 0, 1) := by decide +kernel
theorem dX10_turnsFrom_21 : decode cX10_turnsFrom 21 = .ok (.aload_n 0, 1) := by decide +kernel
theorem dX10_turnsFrom_22 : decode cX10_turnsFrom 22 = .ok (.getfield 29, 3) := by decide +kernel
theorem dX10_turnsFrom_25 : decode cX10_turnsFrom 25 = .ok (.iconst 3, 1) := by decide +kernel
theorem dX10_turnsFrom_26 : decode cX10_turnsFrom 26 = .ok (.iload_n 1, 1) := by decide +kernel
theorem dX10_turnsFrom_27 : decode cX10_turnsFrom 27 = .ok (.imul, 1) := by decide +kernel
theorem dX10_turnsFrom_28 : decode cX10_turnsFrom 28 = .ok (.iconst 1, 1) := by decide +kernel
theorem dX10_turnsFrom_29 : decode cX10_turnsFrom 29 = .ok (.iadd, 1) := by decide +kernel
theorem dX10_turnsFrom_30 : decode cX10_turnsFrom 30 = .ok (.iaload, 1) := by decide +kernel
theorem dX10_turnsFrom_31 : decode cX10_turnsFrom 31 = .ok (.putfield 191, 3) := by decide +kernel
theorem dX10_turnsFrom_34 : decode cX10_turnsFrom 34 = .ok (.aload_n 0, 1) := by decide +kernel
theorem dX10_turnsFrom_35 : decode cX10_turnsFrom 35 = .ok (.aload_n 0, 1) := by decide +kernel
theorem dX10_turnsFrom_36 : decode cX10_turnsFrom 36 = .ok (.getfield 29, 3) := by decide +kernel
theorem dX10_turnsFrom_39 : decode cX10_turnsFrom 39 = .ok (.iconst 3, 1) := by decide +kernel
theorem dX10_turnsFrom_40 : decode cX10_turnsFrom 40 = .ok (.iload_n 1, 1) := by decide +kernel
theorem dX10_turnsFrom_41 : decode cX10_turnsFrom 41 = .ok (.imul, 1) := by decide +kernel
theorem dX10_turnsFrom_42 : decode cX10_turnsFrom 42 = .ok (.iaload, 1) := by decide +kernel
theorem dX10_turnsFrom_43 : decode cX10_turnsFrom 43 = .ok (.putfield 194, 3) := by decide +kernel
theorem dX10_turnsFrom_46 : decode cX10_turnsFrom 46 = .ok (.aload_n 0, 1) := by decide +kernel
theorem dX10_turnsFrom_47 : decode cX10_turnsFrom 47 = .ok (.iload_n 3, 1) := by decide +kernel
theorem dX10_turnsFrom_48 : decode cX10_turnsFrom 48 = .ok (.putfield 197, 3) := by decide +kernel
theorem dX10_turnsFrom_51 : decode cX10_turnsFrom 51 = .ok (.aload_n 0, 1) := by decide +kernel
theorem dX10_turnsFrom_52 : decode cX10_turnsFrom 52 = .ok (.aload_n 0, 1) := by decide +kernel
theorem dX10_turnsFrom_53 : decode cX10_turnsFrom 53 = .ok (.getfield 29, 3) := by decide +kernel
theorem dX10_turnsFrom_56 : decode cX10_turnsFrom 56 = .ok (.iconst 3, 1) := by decide +kernel
theorem dX10_turnsFrom_57 : decode cX10_turnsFrom 57 = .ok (.iload_n 1, 1) := by decide +kernel
theorem dX10_turnsFrom_58 : decode cX10_turnsFrom 58 = .ok (.imul, 1) := by decide +kernel
theorem dX10_turnsFrom_59 : decode cX10_turnsFrom 59 = .ok (.iconst 2, 1) := by decide +kernel
theorem dX10_turnsFrom_60 : decode cX10_turnsFrom 60 = .ok (.iadd, 1) := by decide +kernel
theorem dX10_turnsFrom_61 : decode cX10_turnsFrom 61 = .ok (.iaload, 1) := by decide +kernel
theorem dX10_turnsFrom_62 : decode cX10_turnsFrom 62 = .ok (.iload 4, 2) := by decide +kernel
theorem dX10_turnsFrom_64 : decode cX10_turnsFrom 64 = .ok (.isub, 1) := by decide +kernel
theorem dX10_turnsFrom_65 : decode cX10_turnsFrom 65 = .ok (.putfield 200, 3) := by decide +kernel
theorem dX10_turnsFrom_68 : decode cX10_turnsFrom 68 = .ok (.aload_n 0, 1) := by decide +kernel
theorem dX10_turnsFrom_69 : decode cX10_turnsFrom 69 = .ok (.aload_n 0, 1) := by decide +kernel
theorem dX10_turnsFrom_70 : decode cX10_turnsFrom 70 = .ok (.getfield 23, 3) := by decide +kernel
theorem dX10_turnsFrom_73 : decode cX10_turnsFrom 73 = .ok (.iload 4, 2) := by decide +kernel
theorem dX10_turnsFrom_75 : decode cX10_turnsFrom 75 = .ok (.aload_n 0, 1) := by decide +kernel
theorem dX10_turnsFrom_76 : decode cX10_turnsFrom 76 = .ok (.iload_n 1, 1) := by decide +kernel
theorem dX10_turnsFrom_77 : decode cX10_turnsFrom 77 = .ok (.invokevirtual 111, 3) := by decide +kernel
theorem dX10_turnsFrom_80 : decode cX10_turnsFrom 80 = .ok (.imul, 1) := by decide +kernel
theorem dX10_turnsFrom_81 : decode cX10_turnsFrom 81 = .ok (.isub, 1) := by decide +kernel
theorem dX10_turnsFrom_82 : decode cX10_turnsFrom 82 = .ok (.putfield 203, 3) := by decide +kernel
theorem dX10_turnsFrom_85 : decode cX10_turnsFrom 85 = .ok (.iload_n 3, 1) := by decide +kernel
theorem dX10_turnsFrom_86 : decode cX10_turnsFrom 86 = .ok (.aload_n 0, 1) := by decide +kernel
theorem dX10_turnsFrom_87 : decode cX10_turnsFrom 87 = .ok (.iload_n 1, 1) := by decide +kernel
theorem dX10_turnsFrom_88 : decode cX10_turnsFrom 88 = .ok (.invokevirtual 118, 3) := by decide +kernel
theorem dX10_turnsFrom_91 : decode cX10_turnsFrom 91 = .ok (.iadd, 1) := by decide +kernel
theorem dX10_turnsFrom_92 : decode cX10_turnsFrom 92 = .ok (.invokestatic 262, 3) := by decide +kernel
theorem dX10_turnsFrom_95 : decode cX10_turnsFrom 95 = .ok (.istore_n 3, 1) := by decide +kernel
theorem dX10_turnsFrom_96 : decode cX10_turnsFrom 96 = .ok (.aload_n 0, 1) := by decide +kernel
theorem dX10_turnsFrom_97 : decode cX10_turnsFrom 97 = .ok (.getfield 41, 3) := by decide +kernel
theorem dX10_turnsFrom_100 : decode cX10_turnsFrom 100 = .ok (.iload 4, 2) := by decide +kernel
theorem dX10_turnsFrom_102 : decode cX10_turnsFrom 102 = .ok (.iload_n 3, 1) := by decide +kernel
theorem dX10_turnsFrom_103 : decode cX10_turnsFrom 103 = .ok (.iastore, 1) := by decide +kernel
theorem dX10_turnsFrom_104 : decode cX10_turnsFrom 104 = .ok (.iinc 4 1, 3) := by decide +kernel
theorem dX10_turnsFrom_107 : decode cX10_turnsFrom 107 = .ok (.goto (-99), 3) := by decide +kernel
theorem dX10_turnsFrom_110 : decode cX10_turnsFrom 110 = .ok (.return_, 1) := by decide +kernel
theorem dX10_firstOther_0 : decode cX10_firstOther 0 = .ok (.aload_n 0, 1) := by decide +kernel
theorem dX10_firstOther_1 : decode cX10_firstOther 1 = .ok (.iload_n 2, 1) := by decide +kernel
theorem dX10_firstOther_2 : decode cX10_firstOther 2 = .ok (.aload_n 0, 1) := by decide +kernel
theorem dX10_firstOther_3 : decode cX10_firstOther 3 = .ok (.getfield 63, 3) := by decide +kernel
theorem dX10_firstOther_6 : decode cX10_firstOther 6 = .ok (.iload_n 1, 1) := by decide +kernel
theorem dX10_firstOther_7 : decode cX10_firstOther 7 = .ok (.iaload, 1) := by decide +kernel
theorem dX10_firstOther_8 : decode cX10_firstOther 8 = .ok (.invokevirtual 318, 3) := by decide +kernel
theorem dX10_firstOther_11 : decode cX10_firstOther 11 = .ok (.iconst 0, 1) := by decide +kernel
theorem dX10_firstOther_12 : decode cX10_firstOther 12 = .ok (.istore_n 3, 1) := by decide +kernel
theorem dX10_firstOther_13 : decode cX10_firstOther 13 = .ok (.iload_n 3, 1) := by decide +kernel
theorem dX10_firstOther_14 : decode cX10_firstOther 14 = .ok (.aload_n 0, 1) := by decide +kernel
theorem dX10_firstOther_15 : decode cX10_firstOther 15 = .ok (.getfield 63, 3) := by decide +kernel
theorem dX10_firstOther_18 : decode cX10_firstOther 18 = .ok (.iload_n 1, 1) := by decide +kernel
theorem dX10_firstOther_19 : decode cX10_firstOther 19 = .ok (.iaload, 1) := by decide +kernel
theorem dX10_firstOther_20 : decode cX10_firstOther 20 = .ok (.if_icmp .ge 31, 3) := by decide +kernel
theorem dX10_firstOther_23 : decode cX10_firstOther 23 = .ok (.aload_n 0, 1) := by decide +kernel
theorem dX10_firstOther_24 : decode cX10_firstOther 24 = .ok (.getfield 41, 3) := by decide +kernel
theorem dX10_firstOther_27 : decode cX10_firstOther 27 = .ok (.iload_n 3, 1) := by decide +kernel
theorem dX10_firstOther_28 : decode cX10_firstOther 28 = .ok (.iaload, 1) := by decide +kernel
theorem dX10_firstOther_29 : decode cX10_firstOther 29 = .ok (.aload_n 0, 1) := by decide +kernel
theorem dX10_firstOther_30 : decode cX10_firstOther 30 = .ok (.getfield 66, 3) := by decide +kernel
theorem dX10_firstOther_33 : decode cX10_firstOther 33 = .ok (.bipush 40, 2) := by decide +kernel
theorem dX10_firstOther_35 : decode cX10_firstOther 35 = .ok (.iload_n 1, 1) := by decide +kernel
theorem dX10_firstOther_36 : decode cX10_firstOther 36 = .ok (.imul, 1) := by decide +kernel
theorem dX10_firstOther_37 : decode cX10_firstOther 37 = .ok (.iload_n 3, 1) := by decide +kernel
theorem dX10_firstOther_38 : decode cX10_firstOther 38 = .ok (.iadd, 1) := by decide +kernel
theorem dX10_firstOther_39 : decode cX10_firstOther 39 = .ok (.iaload, 1) := by decide +kernel
theorem dX10_firstOther_40 : decode cX10_firstOther 40 = .ok (.if_icmp .eq 5, 3) := by decide +kernel
theorem dX10_firstOther_43 : decode cX10_firstOther 43 = .ok (.iload_n 3, 1) := by decide +kernel
theorem dX10_firstOther_44 : decode cX10_firstOther 44 = .ok (.ireturn, 1) := by decide +kernel
theorem dX10_firstOther_45 : decode cX10_firstOther 45 = .ok (.iinc 3 1, 3) := by decide +kernel
theorem dX10_firstOther_48 : decode cX10_firstOther 48 = .ok (.goto (-35), 3) := by decide +kernel
theorem dX10_firstOther_51 : decode cX10_firstOther 51 = .ok (.iconst (-1), 1) := by decide +kernel
theorem dX10_firstOther_52 : decode cX10_firstOther 52 = .ok (.ireturn, 1) := by decide +kernel
theorem dX10_tells_0 : decode cX10_tells 0 = .ok (.iload_n 1, 1) := by decide +kernel
theorem dX10_tells_1 : decode cX10_tells 1 = .ok (.invokestatic 310, 3) := by decide +kernel
theorem dX10_tells_4 : decode cX10_tells 4 = .ok (.ifCond .eq 23, 3) := by decide +kernel
theorem dX10_tells_7 : decode cX10_tells 7 = .ok (.aload_n 0, 1) := by decide +kernel
theorem dX10_tells_8 : decode cX10_tells 8 = .ok (.iload_n 2, 1) := by decide +kernel
theorem dX10_tells_9 : decode cX10_tells 9 = .ok (.invokevirtual 85, 3) := by decide +kernel
theorem dX10_tells_12 : decode cX10_tells 12 = .ok (.ifCond .eq 15, 3) := by decide +kernel
theorem dX10_tells_15 : decode cX10_tells 15 = .ok (.iload_n 3, 1) := by decide +kernel
theorem dX10_tells_16 : decode cX10_tells 16 = .ok (.i2l, 1) := by decide +kernel
theorem dX10_tells_17 : decode cX10_tells 17 = .ok (.lconst 0, 1) := by decide +kernel
theorem dX10_tells_18 : decode cX10_tells 18 = .ok (.ldc2_w 107, 3) := by decide +kernel
theorem dX10_tells_21 : decode cX10_tells 21 = .ok (.invokestatic 79, 3) := by decide +kernel
theorem dX10_tells_24 : decode cX10_tells 24 = .ok (.ifCond .ne 6, 3) := by decide +kernel
theorem dX10_tells_27 : decode cX10_tells 27 = .ok (.bipush (-2), 2) := by decide +kernel
theorem dX10_tells_29 : decode cX10_tells 29 = .ok (.ireturn, 1) := by decide +kernel
theorem dX10_tells_30 : decode cX10_tells 30 = .ok (.aload_n 0, 1) := by decide +kernel
theorem dX10_tells_31 : decode cX10_tells 31 = .ok (.getfield 56, 3) := by decide +kernel
theorem dX10_tells_34 : decode cX10_tells 34 = .ok (.iload_n 1, 1) := by decide +kernel
theorem dX10_tells_35 : decode cX10_tells 35 = .ok (.baload, 1) := by decide +kernel
theorem dX10_tells_36 : decode cX10_tells 36 = .ok (.ifCond .ne 6, 3) := by decide +kernel
theorem dX10_tells_39 : decode cX10_tells 39 = .ok (.bipush (-11), 2) := by decide +kernel
theorem dX10_tells_41 : decode cX10_tells 41 = .ok (.ireturn, 1) := by decide +kernel
theorem dX10_tells_42 : decode cX10_tells 42 = .ok (.aload_n 0, 1) := by decide +kernel
theorem dX10_tells_43 : decode cX10_tells 43 = .ok (.getfield 63, 3) := by decide +kernel
theorem dX10_tells_46 : decode cX10_tells 46 = .ok (.iload_n 1, 1) := by decide +kernel
theorem dX10_tells_47 : decode cX10_tells 47 = .ok (.iaload, 1) := by decide +kernel
theorem dX10_tells_48 : decode cX10_tells 48 = .ok (.bipush 20, 2) := by decide +kernel
theorem dX10_tells_50 : decode cX10_tells 50 = .ok (.if_icmp .le 6, 3) := by decide +kernel
theorem dX10_tells_53 : decode cX10_tells 53 = .ok (.bipush (-2), 2) := by decide +kernel
theorem dX10_tells_55 : decode cX10_tells 55 = .ok (.ireturn, 1) := by decide +kernel
theorem dX10_tells_56 : decode cX10_tells 56 = .ok (.iload_n 3, 1) := by decide +kernel
theorem dX10_tells_57 : decode cX10_tells 57 = .ok (.ifCond .ne 10, 3) := by decide +kernel
theorem dX10_tells_60 : decode cX10_tells 60 = .ok (.aload_n 0, 1) := by decide +kernel
theorem dX10_tells_61 : decode cX10_tells 61 = .ok (.iload_n 1, 1) := by decide +kernel
theorem dX10_tells_62 : decode cX10_tells 62 = .ok (.iload_n 2, 1) := by decide +kernel
theorem dX10_tells_63 : decode cX10_tells 63 = .ok (.invokevirtual 322, 3) := by decide +kernel
theorem dX10_tells_66 : decode cX10_tells 66 = .ok (.ireturn, 1) := by decide +kernel
theorem dX10_tells_67 : decode cX10_tells 67 = .ok (.iload_n 3, 1) := by decide +kernel
theorem dX10_tells_68 : decode cX10_tells 68 = .ok (.iconst 1, 1) := by decide +kernel
theorem dX10_tells_69 : decode cX10_tells 69 = .ok (.if_icmp .ne 7, 3) := by decide +kernel
theorem dX10_tells_72 : decode cX10_tells 72 = .ok (.iconst 5, 1) := by decide +kernel
theorem dX10_tells_73 : decode cX10_tells 73 = .ok (.goto 32, 3) := by decide +kernel
theorem dX10_tells_76 : decode cX10_tells 76 = .ok (.iload_n 3, 1) := by decide +kernel
theorem dX10_tells_77 : decode cX10_tells 77 = .ok (.iconst 2, 1) := by decide +kernel
theorem dX10_tells_78 : decode cX10_tells 78 = .ok (.if_icmp .ne 7, 3) := by decide +kernel
theorem dX10_tells_81 : decode cX10_tells 81 = .ok (.iconst 2, 1) := by decide +kernel
theorem dX10_tells_82 : decode cX10_tells 82 = .ok (.goto 23, 3) := by decide +kernel
theorem dX10_tells_85 : decode cX10_tells 85 = .ok (.iload_n 3, 1) := by decide +kernel
theorem dX10_tells_86 : decode cX10_tells 86 = .ok (.iconst 3, 1) := by decide +kernel
theorem dX10_tells_87 : decode cX10_tells 87 = .ok (.if_icmp .ne 7, 3) := by decide +kernel
theorem dX10_tells_90 : decode cX10_tells 90 = .ok (.iconst 3, 1) := by decide +kernel
theorem dX10_tells_91 : decode cX10_tells 91 = .ok (.goto 14, 3) := by decide +kernel
theorem dX10_tells_94 : decode cX10_tells 94 = .ok (.iload_n 3, 1) := by decide +kernel
theorem dX10_tells_95 : decode cX10_tells 95 = .ok (.iconst 4, 1) := by decide +kernel
theorem dX10_tells_96 : decode cX10_tells 96 = .ok (.if_icmp .ne 7, 3) := by decide +kernel
theorem dX10_tells_99 : decode cX10_tells 99 = .ok (.iconst 1, 1) := by decide +kernel
theorem dX10_tells_100 : decode cX10_tells 100 = .ok (.goto 5, 3) := by decide +kernel
theorem dX10_tells_103 : decode cX10_tells 103 = .ok (.bipush 6, 2) := by decide +kernel
theorem dX10_tells_105 : decode cX10_tells 105 = .ok (.istore 4, 2) := by decide +kernel
theorem dX10_tells_107 : decode cX10_tells 107 = .ok (.iload 4, 2) := by decide +kernel
theorem dX10_tells_109 : decode cX10_tells 109 = .ok (.bipush 6, 2) := by decide +kernel
theorem dX10_tells_111 : decode cX10_tells 111 = .ok (.if_icmp .ne 10, 3) := by decide +kernel
theorem dX10_tells_114 : decode cX10_tells 114 = .ok (.aload_n 0, 1) := by decide +kernel
theorem dX10_tells_115 : decode cX10_tells 115 = .ok (.getfield 104, 3) := by decide +kernel
theorem dX10_tells_118 : decode cX10_tells 118 = .ok (.goto 10, 3) := by decide +kernel
theorem dX10_tells_121 : decode cX10_tells 121 = .ok (.aload_n 0, 1) := by decide +kernel
theorem dX10_tells_122 : decode cX10_tells 122 = .ok (.iload_n 2, 1) := by decide +kernel
theorem dX10_tells_123 : decode cX10_tells 123 = .ok (.iload 4, 2) := by decide +kernel
theorem dX10_tells_125 : decode cX10_tells 125 = .ok (.invokevirtual 93, 3) := by decide +kernel
theorem dX10_tells_128 : decode cX10_tells 128 = .ok (.istore 5, 2) := by decide +kernel
theorem dX10_tells_130 : decode cX10_tells 130 = .ok (.iload 4, 2) := by decide +kernel
theorem dX10_tells_132 : decode cX10_tells 132 = .ok (.bipush 6, 2) := by decide +kernel
theorem dX10_tells_134 : decode cX10_tells 134 = .ok (.if_icmp .ne 12, 3) := by decide +kernel
theorem dX10_tells_137 : decode cX10_tells 137 = .ok (.aload_n 0, 1) := by decide +kernel
theorem dX10_tells_138 : decode cX10_tells 138 = .ok (.getfield 73, 3) := by decide +kernel
theorem dX10_tells_141 : decode cX10_tells 141 = .ok (.iconst 1, 1) := by decide +kernel
theorem dX10_tells_142 : decode cX10_tells 142 = .ok (.isub, 1) := by decide +kernel
theorem dX10_tells_143 : decode cX10_tells 143 = .ok (.goto 18, 3) := by decide +kernel
theorem dX10_tells_146 : decode cX10_tells 146 = .ok (.iload 4, 2) := by decide +kernel
theorem dX10_tells_148 : decode cX10_tells 148 = .ok (.iconst 5, 1) := by decide +kernel
theorem dX10_tells_149 : decode cX10_tells 149 = .ok (.if_icmp .ne 7, 3) := by decide +kernel
theorem dX10_tells_152 : decode cX10_tells 152 = .ok (.iconst 5, 1) := by decide +kernel
theorem dX10_tells_153 : decode cX10_tells 153 = .ok (.goto 8, 3) := by decide +kernel
theorem dX10_tells_156 : decode cX10_tells 156 = .ok (.iload 4, 2) := by decide +kernel
theorem dX10_tells_158 : decode cX10_tells 158 = .ok (.invokestatic 89, 3) := by decide +kernel
theorem dX10_tells_161 : decode cX10_tells 161 = .ok (.istore 6, 2) := by decide +kernel
theorem dX10_tells_163 : decode cX10_tells 163 = .ok (.iconst 0, 1) := by decide +kernel
theorem dX10_tells_164 : decode cX10_tells 164 = .ok (.istore 7, 2) := by decide +kernel
theorem dX10_tells_166 : decode cX10_tells 166 = .ok (.iconst 0, 1) := by decide +kernel
theorem dX10_tells_167 : decode cX10_tells 167 = .ok (.istore 8, 2) := by decide +kernel
theorem dX10_tells_169 : decode cX10_tells 169 = .ok (.iload 8, 2) := by decide +kernel
theorem dX10_tells_171 : decode cX10_tells 171 = .ok (.iload 6, 2) := by decide +kernel
theorem dX10_tells_173 : decode cX10_tells 173 = .ok (.if_icmp .gt 41, 3) := by decide +kernel
theorem dX10_tells_176 : decode cX10_tells 176 = .ok (.aload_n 0, 1) := by decide +kernel
theorem dX10_tells_177 : decode cX10_tells 177 = .ok (.iload 4, 2) := by decide +kernel
theorem dX10_tells_179 : decode cX10_tells 179 = .ok (.iload_n 2, 1) := by decide +kernel
theorem dX10_tells_180 : decode cX10_tells 180 = .ok (.iload 8, 2) := by decide +kernel
theorem dX10_tells_182 : decode cX10_tells 182 = .ok (.invokevirtual 97, 3) := by decide +kernel
theorem dX10_tells_185 : decode cX10_tells 185 = .ok (.iload 7, 2) := by decide +kernel
theorem dX10_tells_187 : decode cX10_tells 187 = .ok (.aload_n 0, 1) := by decide +kernel
theorem dX10_tells_188 : decode cX10_tells 188 = .ok (.iload_n 1, 1) := by decide +kernel
theorem dX10_tells_189 : decode cX10_tells 189 = .ok (.iload_n 2, 1) := by decide +kernel
theorem dX10_tells_190 : decode cX10_tells 190 = .ok (.invokevirtual 322, 3) := by decide +kernel
theorem dX10_tells_193 : decode cX10_tells 193 = .ok (.iconst (-1), 1) := by decide +kernel
theorem dX10_tells_194 : decode cX10_tells 194 = .ok (.if_icmp .ne 7, 3) := by decide +kernel
theorem dX10_tells_197 : decode cX10_tells 197 = .ok (.iconst 1, 1) := by decide +kernel
theorem dX10_tells_198 : decode cX10_tells 198 = .ok (.goto 4, 3) := by decide +kernel
theorem dX10_tells_201 : decode cX10_tells 201 = .ok (.iconst 0, 1) := by decide +kernel
theorem dX10_tells_202 : decode cX10_tells 202 = .ok (.iload 8, 2) := by decide +kernel
theorem dX10_tells_204 : decode cX10_tells 204 = .ok (.ishl, 1) := by decide +kernel
theorem dX10_tells_205 : decode cX10_tells 205 = .ok (.ior, 1) := by decide +kernel
theorem dX10_tells_206 : decode cX10_tells 206 = .ok (.istore 7, 2) := by decide +kernel
theorem dX10_tells_208 : decode cX10_tells 208 = .ok (.iinc 8 1, 3) := by decide +kernel
theorem dX10_tells_211 : decode cX10_tells 211 = .ok (.goto (-42), 3) := by decide +kernel
theorem dX10_tells_214 : decode cX10_tells 214 = .ok (.aload_n 0, 1) := by decide +kernel
theorem dX10_tells_215 : decode cX10_tells 215 = .ok (.iload 4, 2) := by decide +kernel
theorem dX10_tells_217 : decode cX10_tells 217 = .ok (.iload_n 2, 1) := by decide +kernel
theorem dX10_tells_218 : decode cX10_tells 218 = .ok (.iload 5, 2) := by decide +kernel
theorem dX10_tells_220 : decode cX10_tells 220 = .ok (.invokevirtual 97, 3) := by decide +kernel
theorem dX10_tells_223 : decode cX10_tells 223 = .ok (.iload 7, 2) := by decide +kernel
theorem dX10_tells_225 : decode cX10_tells 225 = .ok (.ireturn, 1) := by decide +kernel
theorem dX10_film_0 : decode cX10_film 0 = .ok (.iload_n 1, 1) := by decide +kernel
theorem dX10_film_1 : decode cX10_film 1 = .ok (.invokestatic 310, 3) := by decide +kernel
theorem dX10_film_4 : decode cX10_film 4 = .ok (.ifCond .eq 23, 3) := by decide +kernel
theorem dX10_film_7 : decode cX10_film 7 = .ok (.aload_n 0, 1) := by decide +kernel
theorem dX10_film_8 : decode cX10_film 8 = .ok (.iload_n 2, 1) := by decide +kernel
theorem dX10_film_9 : decode cX10_film 9 = .ok (.invokevirtual 85, 3) := by decide +kernel
theorem dX10_film_12 : decode cX10_film 12 = .ok (.ifCond .eq 15, 3) := by decide +kernel
theorem dX10_film_15 : decode cX10_film 15 = .ok (.iload_n 3, 1) := by decide +kernel
theorem dX10_film_16 : decode cX10_film 16 = .ok (.i2l, 1) := by decide +kernel
theorem dX10_film_17 : decode cX10_film 17 = .ok (.lconst 0, 1) := by decide +kernel
theorem dX10_film_18 : decode cX10_film 18 = .ok (.ldc2_w 325, 3) := by decide +kernel
theorem dX10_film_21 : decode cX10_film 21 = .ok (.invokestatic 79, 3) := by decide +kernel
theorem dX10_film_24 : decode cX10_film 24 = .ok (.ifCond .ne 6, 3) := by decide +kernel
theorem dX10_film_27 : decode cX10_film 27 = .ok (.bipush (-2), 2) := by decide +kernel
theorem dX10_film_29 : decode cX10_film 29 = .ok (.ireturn, 1) := by decide +kernel
theorem dX10_film_30 : decode cX10_film 30 = .ok (.aload_n 0, 1) := by decide +kernel
theorem dX10_film_31 : decode cX10_film 31 = .ok (.iload_n 2, 1) := by decide +kernel
theorem dX10_film_32 : decode cX10_film 32 = .ok (.iload_n 3, 1) := by decide +kernel
theorem dX10_film_33 : decode cX10_film 33 = .ok (.invokevirtual 318, 3) := by decide +kernel
theorem dX10_film_36 : decode cX10_film 36 = .ok (.aload_n 0, 1) := by decide +kernel
theorem dX10_film_37 : decode cX10_film 37 = .ok (.iload_n 1, 1) := by decide +kernel
theorem dX10_film_38 : decode cX10_film 38 = .ok (.iconst 0, 1) := by decide +kernel
theorem dX10_film_39 : decode cX10_film 39 = .ok (.iload_n 3, 1) := by decide +kernel
theorem dX10_film_40 : decode cX10_film 40 = .ok (.invokevirtual 327, 3) := by decide +kernel
theorem dX10_film_43 : decode cX10_film 43 = .ok (.pop, 1) := by decide +kernel
theorem dX10_film_44 : decode cX10_film 44 = .ok (.iconst 0, 1) := by decide +kernel
theorem dX10_film_45 : decode cX10_film 45 = .ok (.istore 4, 2) := by decide +kernel
theorem dX10_film_47 : decode cX10_film 47 = .ok (.iload 4, 2) := by decide +kernel
theorem dX10_film_49 : decode cX10_film 49 = .ok (.iload_n 3, 1) := by decide +kernel
theorem dX10_film_50 : decode cX10_film 50 = .ok (.if_icmp .ge 28, 3) := by decide +kernel
theorem dX10_film_53 : decode cX10_film 53 = .ok (.aload_n 0, 1) := by decide +kernel
theorem dX10_film_54 : decode cX10_film 54 = .ok (.getfield 66, 3) := by decide +kernel
theorem dX10_film_57 : decode cX10_film 57 = .ok (.bipush 40, 2) := by decide +kernel
theorem dX10_film_59 : decode cX10_film 59 = .ok (.iload_n 1, 1) := by decide +kernel
theorem dX10_film_60 : decode cX10_film 60 = .ok (.imul, 1) := by decide +kernel
theorem dX10_film_61 : decode cX10_film 61 = .ok (.iload 4, 2) := by decide +kernel
theorem dX10_film_63 : decode cX10_film 63 = .ok (.iadd, 1) := by decide +kernel
theorem dX10_film_64 : decode cX10_film 64 = .ok (.aload_n 0, 1) := by decide +kernel
theorem dX10_film_65 : decode cX10_film 65 = .ok (.getfield 41, 3) := by decide +kernel
theorem dX10_film_68 : decode cX10_film 68 = .ok (.iload 4, 2) := by decide +kernel
theorem dX10_film_70 : decode cX10_film 70 = .ok (.iaload, 1) := by decide +kernel
theorem dX10_film_71 : decode cX10_film 71 = .ok (.iastore, 1) := by decide +kernel
theorem dX10_film_72 : decode cX10_film 72 = .ok (.iinc 4 1, 3) := by decide +kernel
theorem dX10_film_75 : decode cX10_film 75 = .ok (.goto (-28), 3) := by decide +kernel
theorem dX10_film_78 : decode cX10_film 78 = .ok (.iload_n 3, 1) := by decide +kernel
theorem dX10_film_79 : decode cX10_film 79 = .ok (.ireturn, 1) := by decide +kernel
theorem dX10_draws_0 : decode cX10_draws 0 = .ok (.iload_n 1, 1) := by decide +kernel
theorem dX10_draws_1 : decode cX10_draws 1 = .ok (.istore_n 3, 1) := by decide +kernel
theorem dX10_draws_2 : decode cX10_draws 2 = .ok (.iconst 0, 1) := by decide +kernel
theorem dX10_draws_3 : decode cX10_draws 3 = .ok (.istore 4, 2) := by decide +kernel
theorem dX10_draws_5 : decode cX10_draws 5 = .ok (.iconst 0, 1) := by decide +kernel
theorem dX10_draws_6 : decode cX10_draws 6 = .ok (.istore 5, 2) := by decide +kernel
theorem dX10_draws_8 : decode cX10_draws 8 = .ok (.iload 5, 2) := by decide +kernel
theorem dX10_draws_10 : decode cX10_draws 10 = .ok (.iload_n 2, 1) := by decide +kernel
theorem dX10_draws_11 : decode cX10_draws 11 = .ok (.if_icmp .ge 48, 3) := by decide +kernel
theorem dX10_draws_14 : decode cX10_draws 14 = .ok (.iload_n 3, 1) := by decide +kernel
theorem dX10_draws_15 : decode cX10_draws 15 = .ok (.ldc_w 330, 3) := by decide +kernel
theorem dX10_draws_18 : decode cX10_draws 18 = .ok (.imul, 1) := by decide +kernel
theorem dX10_draws_19 : decode cX10_draws 19 = .ok (.sipush 12345, 3) := by decide +kernel
theorem dX10_draws_22 : decode cX10_draws 22 = .ok (.iadd, 1) := by decide +kernel
theorem dX10_draws_23 : decode cX10_draws 23 = .ok (.istore_n 3, 1) := by decide +kernel
theorem dX10_draws_24 : decode cX10_draws 24 = .ok (.iload_n 3, 1) := by decide +kernel
theorem dX10_draws_25 : decode cX10_draws 25 = .ok (.bipush 9, 2) := by decide +kernel
theorem dX10_draws_27 : decode cX10_draws 27 = .ok (.iushr, 1) := by decide +kernel
theorem dX10_draws_28 : decode cX10_draws 28 = .ok (.aload_n 0, 1) := by decide +kernel
theorem dX10_draws_29 : decode cX10_draws 29 = .ok (.getfield 76, 3) := by decide +kernel
theorem dX10_draws_32 : decode cX10_draws 32 = .ok (.irem, 1) := by decide +kernel
theorem dX10_draws_33 : decode cX10_draws 33 = .ok (.istore 6, 2) := by decide +kernel
theorem dX10_draws_35 : decode cX10_draws 35 = .ok (.aload_n 0, 1) := by decide +kernel
theorem dX10_draws_36 : decode cX10_draws 36 = .ok (.iload 6, 2) := by decide +kernel
theorem dX10_draws_38 : decode cX10_draws 38 = .ok (.invokevirtual 293, 3) := by decide +kernel
theorem dX10_draws_41 : decode cX10_draws 41 = .ok (.ifCond .eq 12, 3) := by decide +kernel
theorem dX10_draws_44 : decode cX10_draws 44 = .ok (.aload_n 0, 1) := by decide +kernel
theorem dX10_draws_45 : decode cX10_draws 45 = .ok (.iload 6, 2) := by decide +kernel
theorem dX10_draws_47 : decode cX10_draws 47 = .ok (.invokevirtual 265, 3) := by decide +kernel
theorem dX10_draws_50 : decode cX10_draws 50 = .ok (.iinc 4 1, 3) := by decide +kernel
theorem dX10_draws_53 : decode cX10_draws 53 = .ok (.iinc 5 1, 3) := by decide +kernel
theorem dX10_draws_56 : decode cX10_draws 56 = .ok (.goto (-48), 3) := by decide +kernel
theorem dX10_draws_59 : decode cX10_draws 59 = .ok (.aload_n 0, 1) := by decide +kernel
theorem dX10_draws_60 : decode cX10_draws 60 = .ok (.iconst (-1), 1) := by decide +kernel
theorem dX10_draws_61 : decode cX10_draws 61 = .ok (.invokevirtual 279, 3) := by decide +kernel
theorem dX10_draws_64 : decode cX10_draws 64 = .ok (.istore 5, 2) := by decide +kernel
theorem dX10_draws_66 : decode cX10_draws 66 = .ok (.iconst 0, 1) := by decide +kernel
theorem dX10_draws_67 : decode cX10_draws 67 = .ok (.istore 6, 2) := by decide +kernel
theorem dX10_draws_69 : decode cX10_draws 69 = .ok (.iload 6, 2) := by decide +kernel
theorem dX10_draws_71 : decode cX10_draws 71 = .ok (.iload 4, 2) := by decide +kernel
theorem dX10_draws_73 : decode cX10_draws 73 = .ok (.if_icmp .ge 13, 3) := by decide +kernel
theorem dX10_draws_76 : decode cX10_draws 76 = .ok (.aload_n 0, 1) := by decide +kernel
theorem dX10_draws_77 : decode cX10_draws 77 = .ok (.invokevirtual 296, 3) := by decide +kernel
theorem dX10_draws_80 : decode cX10_draws 80 = .ok (.iinc 6 1, 3) := by decide +kernel
theorem dX10_draws_83 : decode cX10_draws 83 = .ok (.goto (-14), 3) := by decide +kernel
theorem dX10_draws_86 : decode cX10_draws 86 = .ok (.iload 5, 2) := by decide +kernel
theorem dX10_draws_88 : decode cX10_draws 88 = .ok (.ireturn, 1) := by decide +kernel
theorem dX10_drawn_0 : decode cX10_drawn 0 = .ok (.iload_n 2, 1) := by decide +kernel
theorem dX10_drawn_1 : decode cX10_drawn 1 = .ok (.i2l, 1) := by decide +kernel
theorem dX10_drawn_2 : decode cX10_drawn 2 = .ok (.lconst 0, 1) := by decide +kernel
theorem dX10_drawn_3 : decode cX10_drawn 3 = .ok (.ldc2_w 331, 3) := by decide +kernel
theorem dX10_drawn_6 : decode cX10_drawn 6 = .ok (.invokestatic 79, 3) := by decide +kernel
theorem dX10_drawn_9 : decode cX10_drawn 9 = .ok (.ifCond .ne 6, 3) := by decide +kernel
theorem dX10_drawn_12 : decode cX10_drawn 12 = .ok (.bipush (-2), 2) := by decide +kernel
theorem dX10_drawn_14 : decode cX10_drawn 14 = .ok (.ireturn, 1) := by decide +kernel
theorem dX10_drawn_15 : decode cX10_drawn 15 = .ok (.aload_n 0, 1) := by decide +kernel
theorem dX10_drawn_16 : decode cX10_drawn 16 = .ok (.getfield 76, 3) := by decide +kernel
theorem dX10_drawn_19 : decode cX10_drawn 19 = .ok (.ifCond .ne 8, 3) := by decide +kernel
theorem dX10_drawn_22 : decode cX10_drawn 22 = .ok (.bipush (-3), 2) := by decide +kernel
theorem dX10_drawn_24 : decode cX10_drawn 24 = .ok (.goto 9, 3) := by decide +kernel
theorem dX10_drawn_27 : decode cX10_drawn 27 = .ok (.aload_n 0, 1) := by decide +kernel
theorem dX10_drawn_28 : decode cX10_drawn 28 = .ok (.iload_n 1, 1) := by decide +kernel
theorem dX10_drawn_29 : decode cX10_drawn 29 = .ok (.iload_n 2, 1) := by decide +kernel
theorem dX10_drawn_30 : decode cX10_drawn 30 = .ok (.invokevirtual 333, 3) := by decide +kernel
theorem dX10_drawn_33 : decode cX10_drawn 33 = .ok (.ireturn, 1) := by decide +kernel
theorem dX10_chance_0 : decode cX10_chance 0 = .ok (.iload_n 2, 1) := by decide +kernel
theorem dX10_chance_1 : decode cX10_chance 1 = .ok (.i2l, 1) := by decide +kernel
theorem dX10_chance_2 : decode cX10_chance 2 = .ok (.lconst 1, 1) := by decide +kernel
theorem dX10_chance_3 : decode cX10_chance 3 = .ok (.ldc2_w 325, 3) := by decide +kernel
theorem dX10_chance_6 : decode cX10_chance 6 = .ok (.invokestatic 79, 3) := by decide +kernel
theorem dX10_chance_9 : decode cX10_chance 9 = .ok (.ifCond .eq 33, 3) := by decide +kernel
theorem dX10_chance_12 : decode cX10_chance 12 = .ok (.iload_n 3, 1) := by decide +kernel
theorem dX10_chance_13 : decode cX10_chance 13 = .ok (.i2l, 1) := by decide +kernel
theorem dX10_chance_14 : decode cX10_chance 14 = .ok (.lconst 0, 1) := by decide +kernel
theorem dX10_chance_15 : decode cX10_chance 15 = .ok (.ldc2_w 336, 3) := by decide +kernel
theorem dX10_chance_18 : decode cX10_chance 18 = .ok (.invokestatic 79, 3) := by decide +kernel
theorem dX10_chance_21 : decode cX10_chance 21 = .ok (.ifCond .eq 21, 3) := by decide +kernel
theorem dX10_chance_24 : decode cX10_chance 24 = .ok (.iload 4, 2) := by decide +kernel
theorem dX10_chance_26 : decode cX10_chance 26 = .ok (.i2l, 1) := by decide +kernel
theorem dX10_chance_27 : decode cX10_chance 27 = .ok (.lconst 0, 1) := by decide +kernel
theorem dX10_chance_28 : decode cX10_chance 28 = .ok (.lconst 1, 1) := by decide +kernel
theorem dX10_chance_29 : decode cX10_chance 29 = .ok (.invokestatic 79, 3) := by decide +kernel
theorem dX10_chance_32 : decode cX10_chance 32 = .ok (.ifCond .eq 10, 3) := by decide +kernel
theorem dX10_chance_35 : decode cX10_chance 35 = .ok (.aload_n 0, 1) := by decide +kernel
theorem dX10_chance_36 : decode cX10_chance 36 = .ok (.getfield 76, 3) := by decide +kernel
theorem dX10_chance_39 : decode cX10_chance 39 = .ok (.ifCond .ne 7, 3) := by decide +kernel
theorem dX10_chance_42 : decode cX10_chance 42 = .ok (.ldc2_w 338, 3) := by decide +kernel
theorem dX10_chance_45 : decode cX10_chance 45 = .ok (.lreturn, 1) := by decide +kernel
theorem dX10_chance_46 : decode cX10_chance 46 = .ok (.lconst 0, 1) := by decide +kernel
theorem dX10_chance_47 : decode cX10_chance 47 = .ok (.lstore 5, 2) := by decide +kernel
theorem dX10_chance_49 : decode cX10_chance 49 = .ok (.iconst 0, 1) := by decide +kernel
theorem dX10_chance_50 : decode cX10_chance 50 = .ok (.istore 7, 2) := by decide +kernel
theorem dX10_chance_52 : decode cX10_chance 52 = .ok (.iload 7, 2) := by decide +kernel
theorem dX10_chance_54 : decode cX10_chance 54 = .ok (.iload_n 2, 1) := by decide +kernel
theorem dX10_chance_55 : decode cX10_chance 55 = .ok (.if_icmp .ge 33, 3) := by decide +kernel
theorem dX10_chance_58 : decode cX10_chance 58 = .ok (.lload 5, 2) := by decide +kernel
theorem dX10_chance_60 : decode cX10_chance 60 = .ok (.aload_n 0, 1) := by decide +kernel
theorem dX10_chance_61 : decode cX10_chance 61 = .ok (.iload_n 1, 1) := by decide +kernel
theorem dX10_chance_62 : decode cX10_chance 62 = .ok (.iload 7, 2) := by decide +kernel
theorem dX10_chance_64 : decode cX10_chance 64 = .ok (.iadd, 1) := by decide +kernel
theorem dX10_chance_65 : decode cX10_chance 65 = .ok (.bipush 20, 2) := by decide +kernel
theorem dX10_chance_67 : decode cX10_chance 67 = .ok (.invokevirtual 333, 3) := by decide +kernel
theorem dX10_chance_70 : decode cX10_chance 70 = .ok (.iload_n 3, 1) := by decide +kernel
theorem dX10_chance_71 : decode cX10_chance 71 = .ok (.if_icmp .gt 7, 3) := by decide +kernel
theorem dX10_chance_74 : decode cX10_chance 74 = .ok (.lconst 1, 1) := by decide +kernel
theorem dX10_chance_75 : decode cX10_chance 75 = .ok (.goto 4, 3) := by decide +kernel
theorem dX10_chance_78 : decode cX10_chance 78 = .ok (.lconst 0, 1) := by decide +kernel
theorem dX10_chance_79 : decode cX10_chance 79 = .ok (.ladd, 1) := by decide +kernel
theorem dX10_chance_80 : decode cX10_chance 80 = .ok (.lstore 5, 2) := by decide +kernel
theorem dX10_chance_82 : decode cX10_chance 82 = .ok (.iinc 7 1, 3) := by decide +kernel
theorem dX10_chance_85 : decode cX10_chance 85 = .ok (.goto (-33), 3) := by decide +kernel
theorem dX10_chance_88 : decode cX10_chance 88 = .ok (.lload 5, 2) := by decide +kernel
theorem dX10_chance_90 : decode cX10_chance 90 = .ok (.lstore 7, 2) := by decide +kernel
theorem dX10_chance_92 : decode cX10_chance 92 = .ok (.iload_n 2, 1) := by decide +kernel
theorem dX10_chance_93 : decode cX10_chance 93 = .ok (.i2l, 1) := by decide +kernel
theorem dX10_chance_94 : decode cX10_chance 94 = .ok (.lstore 9, 2) := by decide +kernel
theorem dX10_chance_96 : decode cX10_chance 96 = .ok (.lload 9, 2) := by decide +kernel
theorem dX10_chance_98 : decode cX10_chance 98 = .ok (.lconst 0, 1) := by decide +kernel
theorem dX10_chance_99 : decode cX10_chance 99 = .ok (.lcmp, 1) := by decide +kernel
theorem dX10_chance_100 : decode cX10_chance 100 = .ok (.ifCond .eq 21, 3) := by decide +kernel
theorem dX10_chance_103 : decode cX10_chance 103 = .ok (.lload 7, 2) := by decide +kernel
theorem dX10_chance_105 : decode cX10_chance 105 = .ok (.lload 9, 2) := by decide +kernel
theorem dX10_chance_107 : decode cX10_chance 107 = .ok (.lrem, 1) := by decide +kernel
theorem dX10_chance_108 : decode cX10_chance 108 = .ok (.lstore 11, 2) := by decide +kernel
theorem dX10_chance_110 : decode cX10_chance 110 = .ok (.lload 9, 2) := by decide +kernel
theorem dX10_chance_112 : decode cX10_chance 112 = .ok (.lstore 7, 2) := by decide +kernel
theorem dX10_chance_114 : decode cX10_chance 114 = .ok (.lload 11, 2) := by decide +kernel
theorem dX10_chance_116 : decode cX10_chance 116 = .ok (.lstore 9, 2) := by decide +kernel
theorem dX10_chance_118 : decode cX10_chance 118 = .ok (.goto (-22), 3) := by decide +kernel
theorem dX10_chance_121 : decode cX10_chance 121 = .ok (.iload 4, 2) := by decide +kernel
theorem dX10_chance_123 : decode cX10_chance 123 = .ok (.ifCond .ne 11, 3) := by decide +kernel
theorem dX10_chance_126 : decode cX10_chance 126 = .ok (.lload 5, 2) := by decide +kernel
theorem dX10_chance_128 : decode cX10_chance 128 = .ok (.lload 7, 2) := by decide +kernel
theorem dX10_chance_130 : decode cX10_chance 130 = .ok (.ldiv, 1) := by decide +kernel
theorem dX10_chance_131 : decode cX10_chance 131 = .ok (.goto 8, 3) := by decide +kernel
theorem dX10_chance_134 : decode cX10_chance 134 = .ok (.iload_n 2, 1) := by decide +kernel
theorem dX10_chance_135 : decode cX10_chance 135 = .ok (.i2l, 1) := by decide +kernel
theorem dX10_chance_136 : decode cX10_chance 136 = .ok (.lload 7, 2) := by decide +kernel
theorem dX10_chance_138 : decode cX10_chance 138 = .ok (.ldiv, 1) := by decide +kernel
theorem dX10_chance_139 : decode cX10_chance 139 = .ok (.lreturn, 1) := by decide +kernel
theorem dX10_image_0 : decode cX10_image 0 = .ok (.iconst 0, 1) := by decide +kernel
theorem dX10_image_1 : decode cX10_image 1 = .ok (.istore_n 1, 1) := by decide +kernel
theorem dX10_image_2 : decode cX10_image 2 = .ok (.iload_n 1, 1) := by decide +kernel
theorem dX10_image_3 : decode cX10_image 3 = .ok (.bipush 18, 2) := by decide +kernel
theorem dX10_image_5 : decode cX10_image 5 = .ok (.if_icmp .ge 21, 3) := by decide +kernel
theorem dX10_image_8 : decode cX10_image 8 = .ok (.aload_n 0, 1) := by decide +kernel
theorem dX10_image_9 : decode cX10_image 9 = .ok (.getfield 44, 3) := by decide +kernel
theorem dX10_image_12 : decode cX10_image 12 = .ok (.iload_n 1, 1) := by decide +kernel
theorem dX10_image_13 : decode cX10_image 13 = .ok (.aload_n 0, 1) := by decide +kernel
theorem dX10_image_14 : decode cX10_image 14 = .ok (.getfield 29, 3) := by decide +kernel
theorem dX10_image_17 : decode cX10_image 17 = .ok (.iload_n 1, 1) := by decide +kernel
theorem dX10_image_18 : decode cX10_image 18 = .ok (.iaload, 1) := by decide +kernel
theorem dX10_image_19 : decode cX10_image 19 = .ok (.iastore, 1) := by decide +kernel
theorem dX10_image_20 : decode cX10_image 20 = .ok (.iinc 1 1, 3) := by decide +kernel
theorem dX10_image_23 : decode cX10_image 23 = .ok (.goto (-21), 3) := by decide +kernel
theorem dX10_image_26 : decode cX10_image 26 = .ok (.iconst 0, 1) := by decide +kernel
theorem dX10_image_27 : decode cX10_image 27 = .ok (.istore_n 1, 1) := by decide +kernel
theorem dX10_image_28 : decode cX10_image 28 = .ok (.iload_n 1, 1) := by decide +kernel
theorem dX10_image_29 : decode cX10_image 29 = .ok (.bipush 40, 2) := by decide +kernel
theorem dX10_image_31 : decode cX10_image 31 = .ok (.if_icmp .ge 33, 3) := by decide +kernel
theorem dX10_image_34 : decode cX10_image 34 = .ok (.aload_n 0, 1) := by decide +kernel
theorem dX10_image_35 : decode cX10_image 35 = .ok (.getfield 47, 3) := by decide +kernel
theorem dX10_image_38 : decode cX10_image 38 = .ok (.iload_n 1, 1) := by decide +kernel
theorem dX10_image_39 : decode cX10_image 39 = .ok (.aload_n 0, 1) := by decide +kernel
theorem dX10_image_40 : decode cX10_image 40 = .ok (.getfield 32, 3) := by decide +kernel
theorem dX10_image_43 : decode cX10_image 43 = .ok (.iload_n 1, 1) := by decide +kernel
theorem dX10_image_44 : decode cX10_image 44 = .ok (.iaload, 1) := by decide +kernel
theorem dX10_image_45 : decode cX10_image 45 = .ok (.iastore, 1) := by decide +kernel
theorem dX10_image_46 : decode cX10_image 46 = .ok (.aload_n 0, 1) := by decide +kernel
theorem dX10_image_47 : decode cX10_image 47 = .ok (.getfield 50, 3) := by decide +kernel
theorem dX10_image_50 : decode cX10_image 50 = .ok (.iload_n 1, 1) := by decide +kernel
theorem dX10_image_51 : decode cX10_image 51 = .ok (.aload_n 0, 1) := by decide +kernel
theorem dX10_image_52 : decode cX10_image 52 = .ok (.getfield 35, 3) := by decide +kernel
theorem dX10_image_55 : decode cX10_image 55 = .ok (.iload_n 1, 1) := by decide +kernel
theorem dX10_image_56 : decode cX10_image 56 = .ok (.iaload, 1) := by decide +kernel
theorem dX10_image_57 : decode cX10_image 57 = .ok (.iastore, 1) := by decide +kernel
theorem dX10_image_58 : decode cX10_image 58 = .ok (.iinc 1 1, 3) := by decide +kernel
theorem dX10_image_61 : decode cX10_image 61 = .ok (.goto (-33), 3) := by decide +kernel
theorem dX10_image_64 : decode cX10_image 64 = .ok (.aload_n 0, 1) := by decide +kernel
theorem dX10_image_65 : decode cX10_image 65 = .ok (.aload_n 0, 1) := by decide +kernel
theorem dX10_image_66 : decode cX10_image 66 = .ok (.getfield 76, 3) := by decide +kernel
theorem dX10_image_69 : decode cX10_image 69 = .ok (.putfield 53, 3) := by decide +kernel
theorem dX10_image_72 : decode cX10_image 72 = .ok (.aload_n 0, 1) := by decide +kernel
theorem dX10_image_73 : decode cX10_image 73 = .ok (.aload_n 0, 1) := by decide +kernel
theorem dX10_image_74 : decode cX10_image 74 = .ok (.getfield 23, 3) := by decide +kernel
theorem dX10_image_77 : decode cX10_image 77 = .ok (.putfield 340, 3) := by decide +kernel
theorem dX10_image_80 : decode cX10_image 80 = .ok (.aload_n 0, 1) := by decide +kernel
theorem dX10_image_81 : decode cX10_image 81 = .ok (.aload_n 0, 1) := by decide +kernel
theorem dX10_image_82 : decode cX10_image 82 = .ok (.getfield 101, 3) := by decide +kernel
theorem dX10_image_85 : decode cX10_image 85 = .ok (.putfield 343, 3) := by decide +kernel
theorem dX10_image_88 : decode cX10_image 88 = .ok (.aload_n 0, 1) := by decide +kernel
theorem dX10_image_89 : decode cX10_image 89 = .ok (.aload_n 0, 1) := by decide +kernel
theorem dX10_image_90 : decode cX10_image 90 = .ok (.getfield 246, 3) := by decide +kernel
theorem dX10_image_93 : decode cX10_image 93 = .ok (.putfield 346, 3) := by decide +kernel
theorem dX10_image_96 : decode cX10_image 96 = .ok (.aload_n 0, 1) := by decide +kernel
theorem dX10_image_97 : decode cX10_image 97 = .ok (.aload_n 0, 1) := by decide +kernel
theorem dX10_image_98 : decode cX10_image 98 = .ok (.getfield 104, 3) := by decide +kernel
theorem dX10_image_101 : decode cX10_image 101 = .ok (.putfield 349, 3) := by decide +kernel
theorem dX10_image_104 : decode cX10_image 104 = .ok (.aload_n 0, 1) := by decide +kernel
theorem dX10_image_105 : decode cX10_image 105 = .ok (.getfield 76, 3) := by decide +kernel
theorem dX10_image_108 : decode cX10_image 108 = .ok (.ireturn, 1) := by decide +kernel
theorem dX10_back_0 : decode cX10_back 0 = .ok (.aload_n 0, 1) := by decide +kernel
theorem dX10_back_1 : decode cX10_back 1 = .ok (.getfield 53, 3) := by decide +kernel
theorem dX10_back_4 : decode cX10_back 4 = .ok (.iconst (-1), 1) := by decide +kernel
theorem dX10_back_5 : decode cX10_back 5 = .ok (.if_icmp .ne 6, 3) := by decide +kernel
theorem dX10_back_8 : decode cX10_back 8 = .ok (.bipush (-3), 2) := by decide +kernel
theorem dX10_back_10 : decode cX10_back 10 = .ok (.ireturn, 1) := by decide +kernel
theorem dX10_back_11 : decode cX10_back 11 = .ok (.iconst 0, 1) := by decide +kernel
theorem dX10_back_12 : decode cX10_back 12 = .ok (.istore_n 1, 1) := by decide +kernel
theorem dX10_back_13 : decode cX10_back 13 = .ok (.iload_n 1, 1) := by decide +kernel
theorem dX10_back_14 : decode cX10_back 14 = .ok (.bipush 18, 2) := by decide +kernel
theorem dX10_back_16 : decode cX10_back 16 = .ok (.if_icmp .ge 21, 3) := by decide +kernel
theorem dX10_back_19 : decode cX10_back 19 = .ok (.aload_n 0, 1) := by decide +kernel
theorem dX10_back_20 : decode cX10_back 20 = .ok (.getfield 29, 3) := by decide +kernel
theorem dX10_back_23 : decode cX10_back 23 = .ok (.iload_n 1, 1) := by decide +kernel
theorem dX10_back_24 : decode cX10_back 24 = .ok (.aload_n 0, 1) := by decide +kernel
theorem dX10_back_25 : decode cX10_back 25 = .ok (.getfield 44, 3) := by decide +kernel
theorem dX10_back_28 : decode cX10_back 28 = .ok (.iload_n 1, 1) := by decide +kernel
theorem dX10_back_29 : decode cX10_back 29 = .ok (.iaload, 1) := by decide +kernel
theorem dX10_back_30 : decode cX10_back 30 = .ok (.iastore, 1) := by decide +kernel
theorem dX10_back_31 : decode cX10_back 31 = .ok (.iinc 1 1, 3) := by decide +kernel
theorem dX10_back_34 : decode cX10_back 34 = .ok (.goto (-21), 3) := by decide +kernel
theorem dX10_back_37 : decode cX10_back 37 = .ok (.iconst 0, 1) := by decide +kernel
theorem dX10_back_38 : decode cX10_back 38 = .ok (.istore_n 1, 1) := by decide +kernel
theorem dX10_back_39 : decode cX10_back 39 = .ok (.iload_n 1, 1) := by decide +kernel
theorem dX10_back_40 : decode cX10_back 40 = .ok (.bipush 40, 2) := by decide +kernel
theorem dX10_back_42 : decode cX10_back 42 = .ok (.if_icmp .ge 33, 3) := by decide +kernel
theorem dX10_back_45 : decode cX10_back 45 = .ok (.aload_n 0, 1) := by decide +kernel
theorem dX10_back_46 : decode cX10_back 46 = .ok (.getfield 32, 3) := by decide +kernel
theorem dX10_back_49 : decode cX10_back 49 = .ok (.iload_n 1, 1) := by decide +kernel
theorem dX10_back_50 : decode cX10_back 50 = .ok (.aload_n 0, 1) := by decide +kernel
theorem dX10_back_51 : decode cX10_back 51 = .ok (.getfield 47, 3) := by decide +kernel
theorem dX10_back_54 : decode cX10_back 54 = .ok (.iload_n 1, 1) := by decide +kernel
theorem dX10_back_55 : decode cX10_back 55 = .ok (.iaload, 1) := by decide +kernel
theorem dX10_back_56 : decode cX10_back 56 = .ok (.iastore, 1) := by decide +kernel
theorem dX10_back_57 : decode cX10_back 57 = .ok (.aload_n 0, 1) := by decide +kernel
theorem dX10_back_58 : decode cX10_back 58 = .ok (.getfield 35, 3) := by decide +kernel
theorem dX10_back_61 : decode cX10_back 61 = .ok (.iload_n 1, 1) := by decide +kernel
theorem dX10_back_62 : decode cX10_back 62 = .ok (.aload_n 0, 1) := by decide +kernel
theorem dX10_back_63 : decode cX10_back 63 = .ok (.getfield 50, 3) := by decide +kernel
theorem dX10_back_66 : decode cX10_back 66 = .ok (.iload_n 1, 1) := by decide +kernel
theorem dX10_back_67 : decode cX10_back 67 = .ok (.iaload, 1) := by decide +kernel
theorem dX10_back_68 : decode cX10_back 68 = .ok (.iastore, 1) := by decide +kernel
theorem dX10_back_69 : decode cX10_back 69 = .ok (.iinc 1 1, 3) := by decide +kernel
theorem dX10_back_72 : decode cX10_back 72 = .ok (.goto (-33), 3) := by decide +kernel
theorem dX10_back_75 : decode cX10_back 75 = .ok (.aload_n 0, 1) := by decide +kernel
theorem dX10_back_76 : decode cX10_back 76 = .ok (.aload_n 0, 1) := by decide +kernel
theorem dX10_back_77 : decode cX10_back 77 = .ok (.getfield 53, 3) := by decide +kernel
theorem dX10_back_80 : decode cX10_back 80 = .ok (.putfield 76, 3) := by decide +kernel
theorem dX10_back_83 : decode cX10_back 83 = .ok (.aload_n 0, 1) := by decide +kernel
theorem dX10_back_84 : decode cX10_back 84 = .ok (.aload_n 0, 1) := by decide +kernel
theorem dX10_back_85 : decode cX10_back 85 = .ok (.getfield 340, 3) := by decide +kernel
theorem dX10_back_88 : decode cX10_back 88 = .ok (.putfield 23, 3) := by decide +kernel
theorem dX10_back_91 : decode cX10_back 91 = .ok (.aload_n 0, 1) := by decide +kernel
theorem dX10_back_92 : decode cX10_back 92 = .ok (.aload_n 0, 1) := by decide +kernel
theorem dX10_back_93 : decode cX10_back 93 = .ok (.getfield 343, 3) := by decide +kernel
theorem dX10_back_96 : decode cX10_back 96 = .ok (.putfield 101, 3) := by decide +kernel
theorem dX10_back_99 : decode cX10_back 99 = .ok (.aload_n 0, 1) := by decide +kernel
theorem dX10_back_100 : decode cX10_back 100 = .ok (.aload_n 0, 1) := by decide +kernel
theorem dX10_back_101 : decode cX10_back 101 = .ok (.getfield 346, 3) := by decide +kernel
theorem dX10_back_104 : decode cX10_back 104 = .ok (.putfield 246, 3) := by decide +kernel
theorem dX10_back_107 : decode cX10_back 107 = .ok (.aload_n 0, 1) := by decide +kernel
theorem dX10_back_108 : decode cX10_back 108 = .ok (.aload_n 0, 1) := by decide +kernel
theorem dX10_back_109 : decode cX10_back 109 = .ok (.getfield 349, 3) := by decide +kernel
theorem dX10_back_112 : decode cX10_back 112 = .ok (.putfield 104, 3) := by decide +kernel
theorem dX10_back_115 : decode cX10_back 115 = .ok (.aload_n 0, 1) := by decide +kernel
theorem dX10_back_116 : decode cX10_back 116 = .ok (.getfield 76, 3) := by decide +kernel
theorem dX10_back_119 : decode cX10_back 119 = .ok (.ireturn, 1) := by decide +kernel
theorem dX10_count_0 : decode cX10_count 0 = .ok (.iload_n 1, 1) := by decide +kernel
theorem dX10_count_1 : decode cX10_count 1 = .ok (.i2l, 1) := by decide +kernel
theorem dX10_count_2 : decode cX10_count 2 = .ok (.lconst 0, 1) := by decide +kernel
theorem dX10_count_3 : decode cX10_count 3 = .ok (.ldc2_w 107, 3) := by decide +kernel
theorem dX10_count_6 : decode cX10_count 6 = .ok (.invokestatic 79, 3) := by decide +kernel
theorem dX10_count_9 : decode cX10_count 9 = .ok (.ifCond .ne 6, 3) := by decide +kernel
theorem dX10_count_12 : decode cX10_count 12 = .ok (.bipush (-2), 2) := by decide +kernel
theorem dX10_count_14 : decode cX10_count 14 = .ok (.ireturn, 1) := by decide +kernel
theorem dX10_count_15 : decode cX10_count 15 = .ok (.iload_n 1, 1) := by decide +kernel
theorem dX10_count_16 : decode cX10_count 16 = .ok (.iconst 2, 1) := by decide +kernel
theorem dX10_count_17 : decode cX10_count 17 = .ok (.if_icmp .eq 55, 3) := by decide +kernel
theorem dX10_count_20 : decode cX10_count 20 = .ok (.iload_n 1, 1) := by decide +kernel
theorem dX10_count_21 : decode cX10_count 21 = .ok (.ifCond .ne 10, 3) := by decide +kernel
theorem dX10_count_24 : decode cX10_count 24 = .ok (.aload_n 0, 1) := by decide +kernel
theorem dX10_count_25 : decode cX10_count 25 = .ok (.getfield 76, 3) := by decide +kernel
theorem dX10_count_28 : decode cX10_count 28 = .ok (.goto 43, 3) := by decide +kernel
theorem dX10_count_31 : decode cX10_count 31 = .ok (.iload_n 1, 1) := by decide +kernel
theorem dX10_count_32 : decode cX10_count 32 = .ok (.iconst 1, 1) := by decide +kernel
theorem dX10_count_33 : decode cX10_count 33 = .ok (.if_icmp .ne 10, 3) := by decide +kernel
theorem dX10_count_36 : decode cX10_count 36 = .ok (.aload_n 0, 1) := by decide +kernel
theorem dX10_count_37 : decode cX10_count 37 = .ok (.getfield 246, 3) := by decide +kernel
theorem dX10_count_40 : decode cX10_count 40 = .ok (.goto 31, 3) := by decide +kernel
theorem dX10_count_43 : decode cX10_count 43 = .ok (.iload_n 1, 1) := by decide +kernel
theorem dX10_count_44 : decode cX10_count 44 = .ok (.iconst 3, 1) := by decide +kernel
theorem dX10_count_45 : decode cX10_count 45 = .ok (.if_icmp .ne 10, 3) := by decide +kernel
theorem dX10_count_48 : decode cX10_count 48 = .ok (.aload_n 0, 1) := by decide +kernel
theorem dX10_count_49 : decode cX10_count 49 = .ok (.getfield 73, 3) := by decide +kernel
theorem dX10_count_52 : decode cX10_count 52 = .ok (.goto 19, 3) := by decide +kernel
theorem dX10_count_55 : decode cX10_count 55 = .ok (.iload_n 1, 1) := by decide +kernel
theorem dX10_count_56 : decode cX10_count 56 = .ok (.iconst 4, 1) := by decide +kernel
theorem dX10_count_57 : decode cX10_count 57 = .ok (.if_icmp .ne 10, 3) := by decide +kernel
theorem dX10_count_60 : decode cX10_count 60 = .ok (.aload_n 0, 1) := by decide +kernel
theorem dX10_count_61 : decode cX10_count 61 = .ok (.getfield 129, 3) := by decide +kernel
theorem dX10_count_64 : decode cX10_count 64 = .ok (.goto 7, 3) := by decide +kernel
theorem dX10_count_67 : decode cX10_count 67 = .ok (.aload_n 0, 1) := by decide +kernel
theorem dX10_count_68 : decode cX10_count 68 = .ok (.getfield 104, 3) := by decide +kernel
theorem dX10_count_71 : decode cX10_count 71 = .ok (.ireturn, 1) := by decide +kernel
theorem dX10_count_72 : decode cX10_count 72 = .ok (.iconst 0, 1) := by decide +kernel
theorem dX10_count_73 : decode cX10_count 73 = .ok (.istore_n 2, 1) := by decide +kernel
theorem dX10_count_74 : decode cX10_count 74 = .ok (.iconst 0, 1) := by decide +kernel
theorem dX10_count_75 : decode cX10_count 75 = .ok (.istore_n 3, 1) := by decide +kernel
theorem dX10_count_76 : decode cX10_count 76 = .ok (.iload_n 3, 1) := by decide +kernel
theorem dX10_count_77 : decode cX10_count 77 = .ok (.aload_n 0, 1) := by decide +kernel
theorem dX10_count_78 : decode cX10_count 78 = .ok (.getfield 76, 3) := by decide +kernel
theorem dX10_count_81 : decode cX10_count 81 = .ok (.if_icmp .ge 22, 3) := by decide +kernel
theorem dX10_count_84 : decode cX10_count 84 = .ok (.iload_n 2, 1) := by decide +kernel
theorem dX10_count_85 : decode cX10_count 85 = .ok (.aload_n 0, 1) := by decide +kernel
theorem dX10_count_86 : decode cX10_count 86 = .ok (.getfield 29, 3) := by decide +kernel
theorem dX10_count_89 : decode cX10_count 89 = .ok (.iconst 3, 1) := by decide +kernel
theorem dX10_count_90 : decode cX10_count 90 = .ok (.iload_n 3, 1) := by decide +kernel
theorem dX10_count_91 : decode cX10_count 91 = .ok (.imul, 1) := by decide +kernel
theorem dX10_count_92 : decode cX10_count 92 = .ok (.iconst 2, 1) := by decide +kernel
theorem dX10_count_93 : decode cX10_count 93 = .ok (.iadd, 1) := by decide +kernel
theorem dX10_count_94 : decode cX10_count 94 = .ok (.iaload, 1) := by decide +kernel
theorem dX10_count_95 : decode cX10_count 95 = .ok (.iadd, 1) := by decide +kernel
theorem dX10_count_96 : decode cX10_count 96 = .ok (.istore_n 2, 1) := by decide +kernel
theorem dX10_count_97 : decode cX10_count 97 = .ok (.iinc 3 1, 3) := by decide +kernel
theorem dX10_count_100 : decode cX10_count 100 = .ok (.goto (-24), 3) := by decide +kernel
theorem dX10_count_103 : decode cX10_count 103 = .ok (.iload_n 2, 1) := by decide +kernel
theorem dX10_count_104 : decode cX10_count 104 = .ok (.ireturn, 1) := by decide +kernel
theorem dX10_isSheet_0 : decode cX10_isSheet 0 = .ok (.iload_n 0, 1) := by decide +kernel
theorem dX10_isSheet_1 : decode cX10_isSheet 1 = .ok (.i2l, 1) := by decide +kernel
theorem dX10_isSheet_2 : decode cX10_isSheet 2 = .ok (.lconst 0, 1) := by decide +kernel
theorem dX10_isSheet_3 : decode cX10_isSheet 3 = .ok (.ldc2_w 352, 3) := by decide +kernel
theorem dX10_isSheet_6 : decode cX10_isSheet 6 = .ok (.invokestatic 79, 3) := by decide +kernel
theorem dX10_isSheet_9 : decode cX10_isSheet 9 = .ok (.ireturn, 1) := by decide +kernel
theorem dX10_sheet_0 : decode cX10_sheet 0 = .ok (.iload_n 1, 1) := by decide +kernel
theorem dX10_sheet_1 : decode cX10_sheet 1 = .ok (.invokestatic 310, 3) := by decide +kernel
theorem dX10_sheet_4 : decode cX10_sheet 4 = .ok (.ifCond .eq 27, 3) := by decide +kernel
theorem dX10_sheet_7 : decode cX10_sheet 7 = .ok (.iload_n 2, 1) := by decide +kernel
theorem dX10_sheet_8 : decode cX10_sheet 8 = .ok (.i2l, 1) := by decide +kernel
theorem dX10_sheet_9 : decode cX10_sheet 9 = .ok (.ldc2_w 354, 3) := by decide +kernel
theorem dX10_sheet_12 : decode cX10_sheet 12 = .ok (.ldc2_w 356, 3) := by decide +kernel
theorem dX10_sheet_15 : decode cX10_sheet 15 = .ok (.invokestatic 79, 3) := by decide +kernel
theorem dX10_sheet_18 : decode cX10_sheet 18 = .ok (.ifCond .eq 13, 3) := by decide +kernel
theorem dX10_sheet_21 : decode cX10_sheet 21 = .ok (.iload_n 2, 1) := by decide +kernel
theorem dX10_sheet_22 : decode cX10_sheet 22 = .ok (.ifCond .lt 12, 3) := by decide +kernel
theorem dX10_sheet_25 : decode cX10_sheet 25 = .ok (.iload_n 3, 1) := by decide +kernel
theorem dX10_sheet_26 : decode cX10_sheet 26 = .ok (.bipush 40, 2) := by decide +kernel
theorem dX10_sheet_28 : decode cX10_sheet 28 = .ok (.if_icmp .le 6, 3) := by decide +kernel
theorem dX10_sheet_31 : decode cX10_sheet 31 = .ok (.bipush (-2), 2) := by decide +kernel
theorem dX10_sheet_33 : decode cX10_sheet 33 = .ok (.ireturn, 1) := by decide +kernel
theorem dX10_sheet_34 : decode cX10_sheet 34 = .ok (.iload_n 2, 1) := by decide +kernel
theorem dX10_sheet_35 : decode cX10_sheet 35 = .ok (.ifCond .lt 10, 3) := by decide +kernel
theorem dX10_sheet_38 : decode cX10_sheet 38 = .ok (.iload_n 3, 1) := by decide +kernel
theorem dX10_sheet_39 : decode cX10_sheet 39 = .ok (.ifCond .ge 6, 3) := by decide +kernel
theorem dX10_sheet_42 : decode cX10_sheet 42 = .ok (.bipush (-14), 2) := by decide +kernel
theorem dX10_sheet_44 : decode cX10_sheet 44 = .ok (.ireturn, 1) := by decide +kernel
theorem dX10_sheet_45 : decode cX10_sheet 45 = .ok (.aload_n 0, 1) := by decide +kernel
theorem dX10_sheet_46 : decode cX10_sheet 46 = .ok (.getfield 56, 3) := by decide +kernel
theorem dX10_sheet_49 : decode cX10_sheet 49 = .ok (.iload_n 1, 1) := by decide +kernel
theorem dX10_sheet_50 : decode cX10_sheet 50 = .ok (.iload_n 2, 1) := by decide +kernel
theorem dX10_sheet_51 : decode cX10_sheet 51 = .ok (.ifCond .lt 7, 3) := by decide +kernel
theorem dX10_sheet_54 : decode cX10_sheet 54 = .ok (.iconst 1, 1) := by decide +kernel
theorem dX10_sheet_55 : decode cX10_sheet 55 = .ok (.goto 4, 3) := by decide +kernel
theorem dX10_sheet_58 : decode cX10_sheet 58 = .ok (.iconst 0, 1) := by decide +kernel
theorem dX10_sheet_59 : decode cX10_sheet 59 = .ok (.bastore, 1) := by decide +kernel
theorem dX10_sheet_60 : decode cX10_sheet 60 = .ok (.aload_n 0, 1) := by decide +kernel
theorem dX10_sheet_61 : decode cX10_sheet 61 = .ok (.getfield 60, 3) := by decide +kernel
theorem dX10_sheet_64 : decode cX10_sheet 64 = .ok (.iload_n 1, 1) := by decide +kernel
theorem dX10_sheet_65 : decode cX10_sheet 65 = .ok (.iload_n 2, 1) := by decide +kernel
theorem dX10_sheet_66 : decode cX10_sheet 66 = .ok (.iastore, 1) := by decide +kernel
theorem dX10_sheet_67 : decode cX10_sheet 67 = .ok (.aload_n 0, 1) := by decide +kernel
theorem dX10_sheet_68 : decode cX10_sheet 68 = .ok (.getfield 63, 3) := by decide +kernel
theorem dX10_sheet_71 : decode cX10_sheet 71 = .ok (.iload_n 1, 1) := by decide +kernel
theorem dX10_sheet_72 : decode cX10_sheet 72 = .ok (.iload_n 3, 1) := by decide +kernel
theorem dX10_sheet_73 : decode cX10_sheet 73 = .ok (.iastore, 1) := by decide +kernel
theorem dX10_sheet_74 : decode cX10_sheet 74 = .ok (.iconst 0, 1) := by decide +kernel
theorem dX10_sheet_75 : decode cX10_sheet 75 = .ok (.istore 4, 2) := by decide +kernel
theorem dX10_sheet_77 : decode cX10_sheet 77 = .ok (.iload 4, 2) := by decide +kernel
theorem dX10_sheet_79 : decode cX10_sheet 79 = .ok (.iload_n 3, 1) := by decide +kernel
theorem dX10_sheet_80 : decode cX10_sheet 80 = .ok (.if_icmp .ge 26, 3) := by decide +kernel
theorem dX10_sheet_83 : decode cX10_sheet 83 = .ok (.iload_n 2, 1) := by decide +kernel
theorem dX10_sheet_84 : decode cX10_sheet 84 = .ok (.ifCond .lt 22, 3) := by decide +kernel
theorem dX10_sheet_87 : decode cX10_sheet 87 = .ok (.aload_n 0, 1) := by decide +kernel
theorem dX10_sheet_88 : decode cX10_sheet 88 = .ok (.getfield 66, 3) := by decide +kernel
theorem dX10_sheet_91 : decode cX10_sheet 91 = .ok (.bipush 40, 2) := by decide +kernel
theorem dX10_sheet_93 : decode cX10_sheet 93 = .ok (.iload_n 1, 1) := by decide +kernel
theorem dX10_sheet_94 : decode cX10_sheet 94 = .ok (.imul, 1) := by decide +kernel
theorem dX10_sheet_95 : decode cX10_sheet 95 = .ok (.iload 4, 2) := by decide +kernel
theorem dX10_sheet_97 : decode cX10_sheet 97 = .ok (.iadd, 1) := by decide +kernel
theorem dX10_sheet_98 : decode cX10_sheet 98 = .ok (.iconst 0, 1) := by decide +kernel
theorem dX10_sheet_99 : decode cX10_sheet 99 = .ok (.iastore, 1) := by decide +kernel
theorem dX10_sheet_100 : decode cX10_sheet 100 = .ok (.iinc 4 1, 3) := by decide +kernel
theorem dX10_sheet_103 : decode cX10_sheet 103 = .ok (.goto (-26), 3) := by decide +kernel
theorem dX10_sheet_106 : decode cX10_sheet 106 = .ok (.iconst 1, 1) := by decide +kernel
theorem dX10_sheet_107 : decode cX10_sheet 107 = .ok (.ireturn, 1) := by decide +kernel
theorem dX10_cell_0 : decode cX10_cell 0 = .ok (.iload_n 1, 1) := by decide +kernel
theorem dX10_cell_1 : decode cX10_cell 1 = .ok (.invokestatic 310, 3) := by decide +kernel
theorem dX10_cell_4 : decode cX10_cell 4 = .ok (.ifCond .ne 6, 3) := by decide +kernel
theorem dX10_cell_7 : decode cX10_cell 7 = .ok (.bipush (-2), 2) := by decide +kernel
theorem dX10_cell_9 : decode cX10_cell 9 = .ok (.ireturn, 1) := by decide +kernel
theorem dX10_cell_10 : decode cX10_cell 10 = .ok (.aload_n 0, 1) := by decide +kernel
theorem dX10_cell_11 : decode cX10_cell 11 = .ok (.getfield 56, 3) := by decide +kernel
theorem dX10_cell_14 : decode cX10_cell 14 = .ok (.iload_n 1, 1) := by decide +kernel
theorem dX10_cell_15 : decode cX10_cell 15 = .ok (.baload, 1) := by decide +kernel
theorem dX10_cell_16 : decode cX10_cell 16 = .ok (.ifCond .ne 6, 3) := by decide +kernel
theorem dX10_cell_19 : decode cX10_cell 19 = .ok (.bipush (-11), 2) := by decide +kernel
theorem dX10_cell_21 : decode cX10_cell 21 = .ok (.ireturn, 1) := by decide +kernel
theorem dX10_cell_22 : decode cX10_cell 22 = .ok (.iload_n 2, 1) := by decide +kernel
theorem dX10_cell_23 : decode cX10_cell 23 = .ok (.i2l, 1) := by decide +kernel
theorem dX10_cell_24 : decode cX10_cell 24 = .ok (.lconst 0, 1) := by decide +kernel
theorem dX10_cell_25 : decode cX10_cell 25 = .ok (.aload_n 0, 1) := by decide +kernel
theorem dX10_cell_26 : decode cX10_cell 26 = .ok (.getfield 63, 3) := by decide +kernel
theorem dX10_cell_29 : decode cX10_cell 29 = .ok (.iload_n 1, 1) := by decide +kernel
theorem dX10_cell_30 : decode cX10_cell 30 = .ok (.iaload, 1) := by decide +kernel
theorem dX10_cell_31 : decode cX10_cell 31 = .ok (.iconst 1, 1) := by decide +kernel
theorem dX10_cell_32 : decode cX10_cell 32 = .ok (.isub, 1) := by decide +kernel
theorem dX10_cell_33 : decode cX10_cell 33 = .ok (.i2l, 1) := by decide +kernel
theorem dX10_cell_34 : decode cX10_cell 34 = .ok (.invokestatic 79, 3) := by decide +kernel
theorem dX10_cell_37 : decode cX10_cell 37 = .ok (.ifCond .ne 6, 3) := by decide +kernel
theorem dX10_cell_40 : decode cX10_cell 40 = .ok (.bipush (-12), 2) := by decide +kernel
theorem dX10_cell_42 : decode cX10_cell 42 = .ok (.ireturn, 1) := by decide +kernel
theorem dX10_cell_43 : decode cX10_cell 43 = .ok (.aload_n 0, 1) := by decide +kernel
theorem dX10_cell_44 : decode cX10_cell 44 = .ok (.getfield 66, 3) := by decide +kernel
theorem dX10_cell_47 : decode cX10_cell 47 = .ok (.bipush 40, 2) := by decide +kernel
theorem dX10_cell_49 : decode cX10_cell 49 = .ok (.iload_n 1, 1) := by decide +kernel
theorem dX10_cell_50 : decode cX10_cell 50 = .ok (.imul, 1) := by decide +kernel
theorem dX10_cell_51 : decode cX10_cell 51 = .ok (.iload_n 2, 1) := by decide +kernel
theorem dX10_cell_52 : decode cX10_cell 52 = .ok (.iadd, 1) := by decide +kernel
theorem dX10_cell_53 : decode cX10_cell 53 = .ok (.aload_n 0, 1) := by decide +kernel
theorem dX10_cell_54 : decode cX10_cell 54 = .ok (.getfield 60, 3) := by decide +kernel
theorem dX10_cell_57 : decode cX10_cell 57 = .ok (.iload_n 1, 1) := by decide +kernel
theorem dX10_cell_58 : decode cX10_cell 58 = .ok (.iaload, 1) := by decide +kernel
theorem dX10_cell_59 : decode cX10_cell 59 = .ok (.ifCond .ne 8, 3) := by decide +kernel
theorem dX10_cell_62 : decode cX10_cell 62 = .ok (.iload_n 3, 1) := by decide +kernel
theorem dX10_cell_63 : decode cX10_cell 63 = .ok (.i2b, 1) := by decide +kernel
theorem dX10_cell_64 : decode cX10_cell 64 = .ok (.goto 19, 3) := by decide +kernel
theorem dX10_cell_67 : decode cX10_cell 67 = .ok (.aload_n 0, 1) := by decide +kernel
theorem dX10_cell_68 : decode cX10_cell 68 = .ok (.getfield 60, 3) := by decide +kernel
theorem dX10_cell_71 : decode cX10_cell 71 = .ok (.iload_n 1, 1) := by decide +kernel
theorem dX10_cell_72 : decode cX10_cell 72 = .ok (.iaload, 1) := by decide +kernel
theorem dX10_cell_73 : decode cX10_cell 73 = .ok (.iconst 1, 1) := by decide +kernel
theorem dX10_cell_74 : decode cX10_cell 74 = .ok (.if_icmp .ne 8, 3) := by decide +kernel
theorem dX10_cell_77 : decode cX10_cell 77 = .ok (.iload_n 3, 1) := by decide +kernel
theorem dX10_cell_78 : decode cX10_cell 78 = .ok (.i2s, 1) := by decide +kernel
theorem dX10_cell_79 : decode cX10_cell 79 = .ok (.goto 4, 3) := by decide +kernel
theorem dX10_cell_82 : decode cX10_cell 82 = .ok (.iload_n 3, 1) := by decide +kernel
theorem dX10_cell_83 : decode cX10_cell 83 = .ok (.iastore, 1) := by decide +kernel
theorem dX10_cell_84 : decode cX10_cell 84 = .ok (.iconst 1, 1) := by decide +kernel
theorem dX10_cell_85 : decode cX10_cell 85 = .ok (.ireturn, 1) := by decide +kernel
theorem dX10_copy_0 : decode cX10_copy 0 = .ok (.iload_n 1, 1) := by decide +kernel
theorem dX10_copy_1 : decode cX10_copy 1 = .ok (.invokestatic 310, 3) := by decide +kernel
theorem dX10_copy_4 : decode cX10_copy 4 = .ok (.ifCond .eq 10, 3) := by decide +kernel
theorem dX10_copy_7 : decode cX10_copy 7 = .ok (.iload_n 3, 1) := by decide +kernel
theorem dX10_copy_8 : decode cX10_copy 8 = .ok (.invokestatic 310, 3) := by decide +kernel
theorem dX10_copy_11 : decode cX10_copy 11 = .ok (.ifCond .ne 6, 3) := by decide +kernel
theorem dX10_copy_14 : decode cX10_copy 14 = .ok (.bipush (-2), 2) := by decide +kernel
theorem dX10_copy_16 : decode cX10_copy 16 = .ok (.ireturn, 1) := by decide +kernel
theorem dX10_copy_17 : decode cX10_copy 17 = .ok (.aload_n 0, 1) := by decide +kernel
theorem dX10_copy_18 : decode cX10_copy 18 = .ok (.getfield 56, 3) := by decide +kernel
theorem dX10_copy_21 : decode cX10_copy 21 = .ok (.iload_n 1, 1) := by decide +kernel
theorem dX10_copy_22 : decode cX10_copy 22 = .ok (.baload, 1) := by decide +kernel
theorem dX10_copy_23 : decode cX10_copy 23 = .ok (.ifCond .eq 12, 3) := by decide +kernel
theorem dX10_copy_26 : decode cX10_copy 26 = .ok (.aload_n 0, 1) := by decide +kernel
theorem dX10_copy_27 : decode cX10_copy 27 = .ok (.getfield 56, 3) := by decide +kernel
theorem dX10_copy_30 : decode cX10_copy 30 = .ok (.iload_n 3, 1) := by decide +kernel
theorem dX10_copy_31 : decode cX10_copy 31 = .ok (.baload, 1) := by decide +kernel
theorem dX10_copy_32 : decode cX10_copy 32 = .ok (.ifCond .ne 6, 3) := by decide +kernel
theorem dX10_copy_35 : decode cX10_copy 35 = .ok (.bipush (-11), 2) := by decide +kernel
theorem dX10_copy_37 : decode cX10_copy 37 = .ok (.ireturn, 1) := by decide +kernel
theorem dX10_copy_38 : decode cX10_copy 38 = .ok (.aload_n 0, 1) := by decide +kernel
theorem dX10_copy_39 : decode cX10_copy 39 = .ok (.getfield 60, 3) := by decide +kernel
theorem dX10_copy_42 : decode cX10_copy 42 = .ok (.iload_n 1, 1) := by decide +kernel
theorem dX10_copy_43 : decode cX10_copy 43 = .ok (.iaload, 1) := by decide +kernel
theorem dX10_copy_44 : decode cX10_copy 44 = .ok (.aload_n 0, 1) := by decide +kernel
theorem dX10_copy_45 : decode cX10_copy 45 = .ok (.getfield 60, 3) := by decide +kernel
theorem dX10_copy_48 : decode cX10_copy 48 = .ok (.iload_n 3, 1) := by decide +kernel
theorem dX10_copy_49 : decode cX10_copy 49 = .ok (.iaload, 1) := by decide +kernel
theorem dX10_copy_50 : decode cX10_copy 50 = .ok (.if_icmp .eq 6, 3) := by decide +kernel
theorem dX10_copy_53 : decode cX10_copy 53 = .ok (.bipush (-13), 2) := by decide +kernel
theorem dX10_copy_55 : decode cX10_copy 55 = .ok (.ireturn, 1) := by decide +kernel
theorem dX10_copy_56 : decode cX10_copy 56 = .ok (.iload 5, 2) := by decide +kernel
theorem dX10_copy_58 : decode cX10_copy 58 = .ok (.ifCond .lt 39, 3) := by decide +kernel
theorem dX10_copy_61 : decode cX10_copy 61 = .ok (.iload_n 2, 1) := by decide +kernel
theorem dX10_copy_62 : decode cX10_copy 62 = .ok (.ifCond .lt 35, 3) := by decide +kernel
theorem dX10_copy_65 : decode cX10_copy 65 = .ok (.iload 4, 2) := by decide +kernel
theorem dX10_copy_67 : decode cX10_copy 67 = .ok (.ifCond .lt 30, 3) := by decide +kernel
theorem dX10_copy_70 : decode cX10_copy 70 = .ok (.iload_n 2, 1) := by decide +kernel
theorem dX10_copy_71 : decode cX10_copy 71 = .ok (.aload_n 0, 1) := by decide +kernel
theorem dX10_copy_72 : decode cX10_copy 72 = .ok (.getfield 63, 3) := by decide +kernel
theorem dX10_copy_75 : decode cX10_copy 75 = .ok (.iload_n 1, 1) := by decide +kernel
theorem dX10_copy_76 : decode cX10_copy 76 = .ok (.iaload, 1) := by decide +kernel
theorem dX10_copy_77 : decode cX10_copy 77 = .ok (.iload 5, 2) := by decide +kernel
theorem dX10_copy_79 : decode cX10_copy 79 = .ok (.isub, 1) := by decide +kernel
theorem dX10_copy_80 : decode cX10_copy 80 = .ok (.if_icmp .gt 17, 3) := by decide +kernel
theorem dX10_copy_83 : decode cX10_copy 83 = .ok (.iload 4, 2) := by decide +kernel
theorem dX10_copy_85 : decode cX10_copy 85 = .ok (.aload_n 0, 1) := by decide +kernel
theorem dX10_copy_86 : decode cX10_copy 86 = .ok (.getfield 63, 3) := by decide +kernel
theorem dX10_copy_89 : decode cX10_copy 89 = .ok (.iload_n 3, 1) := by decide +kernel
theorem dX10_copy_90 : decode cX10_copy 90 = .ok (.iaload, 1) := by decide +kernel
theorem dX10_copy_91 : decode cX10_copy 91 = .ok (.iload 5, 2) := by decide +kernel
theorem dX10_copy_93 : decode cX10_copy 93 = .ok (.isub, 1) := by decide +kernel
theorem dX10_copy_94 : decode cX10_copy 94 = .ok (.if_icmp .le 6, 3) := by decide +kernel
theorem dX10_copy_97 : decode cX10_copy 97 = .ok (.bipush (-12), 2) := by decide +kernel
theorem dX10_copy_99 : decode cX10_copy 99 = .ok (.ireturn, 1) := by decide +kernel
theorem dX10_copy_100 : decode cX10_copy 100 = .ok (.iload_n 1, 1) := by decide +kernel
theorem dX10_copy_101 : decode cX10_copy 101 = .ok (.iload_n 3, 1) := by decide +kernel
theorem dX10_copy_102 : decode cX10_copy 102 = .ok (.if_icmp .ne 13, 3) := by decide +kernel
theorem dX10_copy_105 : decode cX10_copy 105 = .ok (.iload_n 2, 1) := by decide +kernel
theorem dX10_copy_106 : decode cX10_copy 106 = .ok (.iload 4, 2) := by decide +kernel
theorem dX10_copy_108 : decode cX10_copy 108 = .ok (.if_icmp .ge 7, 3) := by decide +kernel
theorem dX10_copy_111 : decode cX10_copy 111 = .ok (.iconst 1, 1) := by decide +kernel
theorem dX10_copy_112 : decode cX10_copy 112 = .ok (.goto 4, 3) := by decide +kernel
theorem dX10_copy_115 : decode cX10_copy 115 = .ok (.iconst 0, 1) := by decide +kernel
theorem dX10_copy_116 : decode cX10_copy 116 = .ok (.istore 6, 2) := by decide +kernel
theorem dX10_copy_118 : decode cX10_copy 118 = .ok (.iconst 0, 1) := by decide +kernel
theorem dX10_copy_119 : decode cX10_copy 119 = .ok (.istore 7, 2) := by decide +kernel
theorem dX10_copy_121 : decode cX10_copy 121 = .ok (.iload 7, 2) := by decide +kernel
theorem dX10_copy_123 : decode cX10_copy 123 = .ok (.iload 5, 2) := by decide +kernel
theorem dX10_copy_125 : decode cX10_copy 125 = .ok (.if_icmp .ge 57, 3) := by decide +kernel
theorem dX10_copy_128 : decode cX10_copy 128 = .ok (.iload 6, 2) := by decide +kernel
theorem dX10_copy_130 : decode cX10_copy 130 = .ok (.ifCond .eq 13, 3) := by decide +kernel
theorem dX10_copy_133 : decode cX10_copy 133 = .ok (.iload 5, 2) := by decide +kernel
theorem dX10_copy_135 : decode cX10_copy 135 = .ok (.iconst 1, 1) := by decide +kernel
theorem dX10_copy_136 : decode cX10_copy 136 = .ok (.isub, 1) := by decide +kernel
theorem dX10_copy_137 : decode cX10_copy 137 = .ok (.iload 7, 2) := by decide +kernel
theorem dX10_copy_139 : decode cX10_copy 139 = .ok (.isub, 1) := by decide +kernel
theorem dX10_copy_140 : decode cX10_copy 140 = .ok (.goto 5, 3) := by decide +kernel
theorem dX10_copy_143 : decode cX10_copy 143 = .ok (.iload 7, 2) := by decide +kernel
theorem dX10_copy_145 : decode cX10_copy 145 = .ok (.istore 8, 2) := by decide +kernel
theorem dX10_copy_147 : decode cX10_copy 147 = .ok (.aload_n 0, 1) := by decide +kernel
theorem dX10_copy_148 : decode cX10_copy 148 = .ok (.getfield 66, 3) := by decide +kernel
theorem dX10_copy_151 : decode cX10_copy 151 = .ok (.bipush 40, 2) := by decide +kernel
theorem dX10_copy_153 : decode cX10_copy 153 = .ok (.iload_n 3, 1) := by decide +kernel
theorem dX10_copy_154 : decode cX10_copy 154 = .ok (.imul, 1) := by decide +kernel
theorem dX10_copy_155 : decode cX10_copy 155 = .ok (.iload 4, 2) := by decide +kernel
theorem dX10_copy_157 : decode cX10_copy 157 = .ok (.iadd, 1) := by decide +kernel
theorem dX10_copy_158 : decode cX10_copy 158 = .ok (.iload 8, 2) := by decide +kernel
theorem dX10_copy_160 : decode cX10_copy 160 = .ok (.iadd, 1) := by decide +kernel
theorem dX10_copy_161 : decode cX10_copy 161 = .ok (.aload_n 0, 1) := by decide +kernel
theorem dX10_copy_162 : decode cX10_copy 162 = .ok (.getfield 66, 3) := by decide +kernel
theorem dX10_copy_165 : decode cX10_copy 165 = .ok (.bipush 40, 2) := by decide +kernel
theorem dX10_copy_167 : decode cX10_copy 167 = .ok (.iload_n 1, 1) := by decide +kernel
theorem dX10_copy_168 : decode cX10_copy 168 = .ok (.imul, 1) := by decide +kernel
theorem dX10_copy_169 : decode cX10_copy 169 = .ok (.iload_n 2, 1) := by decide +kernel
theorem dX10_copy_170 : decode cX10_copy 170 = .ok (.iadd, 1) := by decide +kernel
theorem dX10_copy_171 : decode cX10_copy 171 = .ok (.iload 8, 2) := by decide +kernel
theorem dX10_copy_173 : decode cX10_copy 173 = .ok (.iadd, 1) := by decide +kernel
theorem dX10_copy_174 : decode cX10_copy 174 = .ok (.iaload, 1) := by decide +kernel
theorem dX10_copy_175 : decode cX10_copy 175 = .ok (.iastore, 1) := by decide +kernel
theorem dX10_copy_176 : decode cX10_copy 176 = .ok (.iinc 7 1, 3) := by decide +kernel
theorem dX10_copy_179 : decode cX10_copy 179 = .ok (.goto (-58), 3) := by decide +kernel
theorem dX10_copy_182 : decode cX10_copy 182 = .ok (.iload 5, 2) := by decide +kernel
theorem dX10_copy_184 : decode cX10_copy 184 = .ok (.ireturn, 1) := by decide +kernel
theorem dX10_flowers_0 : decode cX10_flowers 0 = .ok (.iload_n 1, 1) := by decide +kernel
theorem dX10_flowers_1 : decode cX10_flowers 1 = .ok (.invokestatic 310, 3) := by decide +kernel
theorem dX10_flowers_4 : decode cX10_flowers 4 = .ok (.ifCond .eq 28, 3) := by decide +kernel
theorem dX10_flowers_7 : decode cX10_flowers 7 = .ok (.iload_n 2, 1) := by decide +kernel
theorem dX10_flowers_8 : decode cX10_flowers 8 = .ok (.i2l, 1) := by decide +kernel
theorem dX10_flowers_9 : decode cX10_flowers 9 = .ok (.lconst 0, 1) := by decide +kernel
theorem dX10_flowers_10 : decode cX10_flowers 10 = .ok (.ldc2_w 356, 3) := by decide +kernel
theorem dX10_flowers_13 : decode cX10_flowers 13 = .ok (.invokestatic 79, 3) := by decide +kernel
theorem dX10_flowers_16 : decode cX10_flowers 16 = .ok (.ifCond .eq 16, 3) := by decide +kernel
theorem dX10_flowers_19 : decode cX10_flowers 19 = .ok (.iload 4, 2) := by decide +kernel
theorem dX10_flowers_21 : decode cX10_flowers 21 = .ok (.i2l, 1) := by decide +kernel
theorem dX10_flowers_22 : decode cX10_flowers 22 = .ok (.lconst 0, 1) := by decide +kernel
theorem dX10_flowers_23 : decode cX10_flowers 23 = .ok (.ldc2_w 308, 3) := by decide +kernel
theorem dX10_flowers_26 : decode cX10_flowers 26 = .ok (.invokestatic 79, 3) := by decide +kernel
theorem dX10_flowers_29 : decode cX10_flowers 29 = .ok (.ifCond .ne 6, 3) := by decide +kernel
theorem dX10_flowers_32 : decode cX10_flowers 32 = .ok (.bipush (-2), 2) := by decide +kernel
theorem dX10_flowers_34 : decode cX10_flowers 34 = .ok (.ireturn, 1) := by decide +kernel
theorem dX10_flowers_35 : decode cX10_flowers 35 = .ok (.aload_n 0, 1) := by decide +kernel
theorem dX10_flowers_36 : decode cX10_flowers 36 = .ok (.getfield 56, 3) := by decide +kernel
theorem dX10_flowers_39 : decode cX10_flowers 39 = .ok (.iload_n 1, 1) := by decide +kernel
theorem dX10_flowers_40 : decode cX10_flowers 40 = .ok (.baload, 1) := by decide +kernel
theorem dX10_flowers_41 : decode cX10_flowers 41 = .ok (.ifCond .eq 16, 3) := by decide +kernel
theorem dX10_flowers_44 : decode cX10_flowers 44 = .ok (.aload_n 0, 1) := by decide +kernel
theorem dX10_flowers_45 : decode cX10_flowers 45 = .ok (.getfield 60, 3) := by decide +kernel
theorem dX10_flowers_48 : decode cX10_flowers 48 = .ok (.iload_n 1, 1) := by decide +kernel
theorem dX10_flowers_49 : decode cX10_flowers 49 = .ok (.iaload, 1) := by decide +kernel
theorem dX10_flowers_50 : decode cX10_flowers 50 = .ok (.iload_n 2, 1) := by decide +kernel
theorem dX10_flowers_51 : decode cX10_flowers 51 = .ok (.if_icmp .eq 6, 3) := by decide +kernel
theorem dX10_flowers_54 : decode cX10_flowers 54 = .ok (.bipush (-13), 2) := by decide +kernel
theorem dX10_flowers_56 : decode cX10_flowers 56 = .ok (.ireturn, 1) := by decide +kernel
theorem dX10_flowers_57 : decode cX10_flowers 57 = .ok (.aload_n 0, 1) := by decide +kernel
theorem dX10_flowers_58 : decode cX10_flowers 58 = .ok (.getfield 56, 3) := by decide +kernel
theorem dX10_flowers_61 : decode cX10_flowers 61 = .ok (.iload_n 1, 1) := by decide +kernel
theorem dX10_flowers_62 : decode cX10_flowers 62 = .ok (.baload, 1) := by decide +kernel
theorem dX10_flowers_63 : decode cX10_flowers 63 = .ok (.ifCond .ne 6, 3) := by decide +kernel
theorem dX10_flowers_66 : decode cX10_flowers 66 = .ok (.bipush (-11), 2) := by decide +kernel
theorem dX10_flowers_68 : decode cX10_flowers 68 = .ok (.ireturn, 1) := by decide +kernel
theorem dX10_flowers_69 : decode cX10_flowers 69 = .ok (.iconst 0, 1) := by decide +kernel
theorem dX10_flowers_70 : decode cX10_flowers 70 = .ok (.istore 5, 2) := by decide +kernel
theorem dX10_flowers_72 : decode cX10_flowers 72 = .ok (.iconst 0, 1) := by decide +kernel
theorem dX10_flowers_73 : decode cX10_flowers 73 = .ok (.istore 6, 2) := by decide +kernel
theorem dX10_flowers_75 : decode cX10_flowers 75 = .ok (.iload 6, 2) := by decide +kernel
theorem dX10_flowers_77 : decode cX10_flowers 77 = .ok (.iload 4, 2) := by decide +kernel
theorem dX10_flowers_79 : decode cX10_flowers 79 = .ok (.if_icmp .ge 79, 3) := by decide +kernel
theorem dX10_flowers_82 : decode cX10_flowers 82 = .ok (.iload_n 3, 1) := by decide +kernel
theorem dX10_flowers_83 : decode cX10_flowers 83 = .ok (.ifCond .lt 20, 3) := by decide +kernel
theorem dX10_flowers_86 : decode cX10_flowers 86 = .ok (.iload_n 3, 1) := by decide +kernel
theorem dX10_flowers_87 : decode cX10_flowers 87 = .ok (.aload_n 0, 1) := by decide +kernel
theorem dX10_flowers_88 : decode cX10_flowers 88 = .ok (.getfield 63, 3) := by decide +kernel
theorem dX10_flowers_91 : decode cX10_flowers 91 = .ok (.iload_n 1, 1) := by decide +kernel
theorem dX10_flowers_92 : decode cX10_flowers 92 = .ok (.iaload, 1) := by decide +kernel
theorem dX10_flowers_93 : decode cX10_flowers 93 = .ok (.iconst 2, 1) := by decide +kernel
theorem dX10_flowers_94 : decode cX10_flowers 94 = .ok (.iload 6, 2) := by decide +kernel
theorem dX10_flowers_96 : decode cX10_flowers 96 = .ok (.imul, 1) := by decide +kernel
theorem dX10_flowers_97 : decode cX10_flowers 97 = .ok (.isub, 1) := by decide +kernel
theorem dX10_flowers_98 : decode cX10_flowers 98 = .ok (.iconst 2, 1) := by decide +kernel
theorem dX10_flowers_99 : decode cX10_flowers 99 = .ok (.isub, 1) := by decide +kernel
theorem dX10_flowers_100 : decode cX10_flowers 100 = .ok (.if_icmp .le 6, 3) := by decide +kernel
theorem dX10_flowers_103 : decode cX10_flowers 103 = .ok (.bipush (-12), 2) := by decide +kernel
theorem dX10_flowers_105 : decode cX10_flowers 105 = .ok (.ireturn, 1) := by decide +kernel
theorem dX10_flowers_106 : decode cX10_flowers 106 = .ok (.bipush 40, 2) := by decide +kernel
theorem dX10_flowers_108 : decode cX10_flowers 108 = .ok (.iload_n 1, 1) := by decide +kernel
theorem dX10_flowers_109 : decode cX10_flowers 109 = .ok (.imul, 1) := by decide +kernel
theorem dX10_flowers_110 : decode cX10_flowers 110 = .ok (.iload_n 3, 1) := by decide +kernel
theorem dX10_flowers_111 : decode cX10_flowers 111 = .ok (.iadd, 1) := by decide +kernel
theorem dX10_flowers_112 : decode cX10_flowers 112 = .ok (.iconst 2, 1) := by decide +kernel
theorem dX10_flowers_113 : decode cX10_flowers 113 = .ok (.iload 6, 2) := by decide +kernel
theorem dX10_flowers_115 : decode cX10_flowers 115 = .ok (.imul, 1) := by decide +kernel
theorem dX10_flowers_116 : decode cX10_flowers 116 = .ok (.iadd, 1) := by decide +kernel
theorem dX10_flowers_117 : decode cX10_flowers 117 = .ok (.istore 7, 2) := by decide +kernel
theorem dX10_flowers_119 : decode cX10_flowers 119 = .ok (.iload 5, 2) := by decide +kernel
theorem dX10_flowers_121 : decode cX10_flowers 121 = .ok (.aload_n 0, 1) := by decide +kernel
theorem dX10_flowers_122 : decode cX10_flowers 122 = .ok (.aload_n 0, 1) := by decide +kernel
theorem dX10_flowers_123 : decode cX10_flowers 123 = .ok (.getfield 66, 3) := by decide +kernel
theorem dX10_flowers_126 : decode cX10_flowers 126 = .ok (.iload 7, 2) := by decide +kernel
theorem dX10_flowers_128 : decode cX10_flowers 128 = .ok (.iaload, 1) := by decide +kernel
theorem dX10_flowers_129 : decode cX10_flowers 129 = .ok (.aload_n 0, 1) := by decide +kernel
theorem dX10_flowers_130 : decode cX10_flowers 130 = .ok (.getfield 66, 3) := by decide +kernel
theorem dX10_flowers_133 : decode cX10_flowers 133 = .ok (.iload 7, 2) := by decide +kernel
theorem dX10_flowers_135 : decode cX10_flowers 135 = .ok (.iconst 1, 1) := by decide +kernel
theorem dX10_flowers_136 : decode cX10_flowers 136 = .ok (.iadd, 1) := by decide +kernel
theorem dX10_flowers_137 : decode cX10_flowers 137 = .ok (.iaload, 1) := by decide +kernel
theorem dX10_flowers_138 : decode cX10_flowers 138 = .ok (.invokevirtual 358, 3) := by decide +kernel
theorem dX10_flowers_141 : decode cX10_flowers 141 = .ok (.ifCond .lt 7, 3) := by decide +kernel
theorem dX10_flowers_144 : decode cX10_flowers 144 = .ok (.iconst 1, 1) := by decide +kernel
theorem dX10_flowers_145 : decode cX10_flowers 145 = .ok (.goto 4, 3) := by decide +kernel
theorem dX10_flowers_148 : decode cX10_flowers 148 = .ok (.iconst 0, 1) := by decide +kernel
theorem dX10_flowers_149 : decode cX10_flowers 149 = .ok (.iadd, 1) := by decide +kernel
theorem dX10_flowers_150 : decode cX10_flowers 150 = .ok (.istore 5, 2) := by decide +kernel
theorem dX10_flowers_152 : decode cX10_flowers 152 = .ok (.iinc 6 1, 3) := by decide +kernel
theorem dX10_flowers_155 : decode cX10_flowers 155 = .ok (.goto (-80), 3) := by decide +kernel
theorem dX10_flowers_158 : decode cX10_flowers 158 = .ok (.iload 5, 2) := by decide +kernel
theorem dX10_flowers_160 : decode cX10_flowers 160 = .ok (.ireturn, 1) := by decide +kernel
theorem dX10_over_0 : decode cX10_over 0 = .ok (.iload_n 0, 1) := by decide +kernel
theorem dX10_over_1 : decode cX10_over 1 = .ok (.ifCond .ne 7, 3) := by decide +kernel
theorem dX10_over_4 : decode cX10_over 4 = .ok (.iconst (-1), 1) := by decide +kernel
theorem dX10_over_5 : decode cX10_over 5 = .ok (.goto 22, 3) := by decide +kernel
theorem dX10_over_8 : decode cX10_over 8 = .ok (.iload_n 0, 1) := by decide +kernel
theorem dX10_over_9 : decode cX10_over 9 = .ok (.iconst 3, 1) := by decide +kernel
theorem dX10_over_10 : decode cX10_over 10 = .ok (.if_icmp .ne 7, 3) := by decide +kernel
theorem dX10_over_13 : decode cX10_over 13 = .ok (.iconst 1, 1) := by decide +kernel
theorem dX10_over_14 : decode cX10_over 14 = .ok (.goto 13, 3) := by decide +kernel
theorem dX10_over_17 : decode cX10_over 17 = .ok (.iload_n 0, 1) := by decide +kernel
theorem dX10_over_18 : decode cX10_over 18 = .ok (.iconst 4, 1) := by decide +kernel
theorem dX10_over_19 : decode cX10_over 19 = .ok (.if_icmp .ne 7, 3) := by decide +kernel
theorem dX10_over_22 : decode cX10_over 22 = .ok (.iconst 2, 1) := by decide +kernel
theorem dX10_over_23 : decode cX10_over 23 = .ok (.goto 4, 3) := by decide +kernel
theorem dX10_over_26 : decode cX10_over 26 = .ok (.iconst 0, 1) := by decide +kernel
theorem dX10_over_27 : decode cX10_over 27 = .ok (.ireturn, 1) := by decide +kernel
theorem dX10_taken_0 : decode cX10_taken 0 = .ok (.iload_n 2, 1) := by decide +kernel
theorem dX10_taken_1 : decode cX10_taken 1 = .ok (.i2l, 1) := by decide +kernel
theorem dX10_taken_2 : decode cX10_taken 2 = .ok (.lconst 0, 1) := by decide +kernel
theorem dX10_taken_3 : decode cX10_taken 3 = .ok (.ldc2_w 107, 3) := by decide +kernel
theorem dX10_taken_6 : decode cX10_taken 6 = .ok (.invokestatic 79, 3) := by decide +kernel
theorem dX10_taken_9 : decode cX10_taken 9 = .ok (.ifCond .ne 6, 3) := by decide +kernel
theorem dX10_taken_12 : decode cX10_taken 12 = .ok (.bipush (-2), 2) := by decide +kernel
theorem dX10_taken_14 : decode cX10_taken 14 = .ok (.ireturn, 1) := by decide +kernel
theorem dX10_taken_15 : decode cX10_taken 15 = .ok (.aload_n 0, 1) := by decide +kernel
theorem dX10_taken_16 : decode cX10_taken 16 = .ok (.iload_n 1, 1) := by decide +kernel
theorem dX10_taken_17 : decode cX10_taken 17 = .ok (.invokevirtual 85, 3) := by decide +kernel
theorem dX10_taken_20 : decode cX10_taken 20 = .ok (.ifCond .ne 6, 3) := by decide +kernel
theorem dX10_taken_23 : decode cX10_taken 23 = .ok (.bipush (-11), 2) := by decide +kernel
theorem dX10_taken_25 : decode cX10_taken 25 = .ok (.ireturn, 1) := by decide +kernel
theorem dX10_taken_26 : decode cX10_taken 26 = .ok (.aload_n 0, 1) := by decide +kernel
theorem dX10_taken_27 : decode cX10_taken 27 = .ok (.getfield 26, 3) := by decide +kernel
theorem dX10_taken_30 : decode cX10_taken 30 = .ok (.iload_n 1, 1) := by decide +kernel
theorem dX10_taken_31 : decode cX10_taken 31 = .ok (.iaload, 1) := by decide +kernel
theorem dX10_taken_32 : decode cX10_taken 32 = .ok (.istore_n 3, 1) := by decide +kernel
theorem dX10_taken_33 : decode cX10_taken 33 = .ok (.iload_n 3, 1) := by decide +kernel
theorem dX10_taken_34 : decode cX10_taken 34 = .ok (.iconst (-1), 1) := by decide +kernel
theorem dX10_taken_35 : decode cX10_taken 35 = .ok (.if_icmp .eq 16, 3) := by decide +kernel
theorem dX10_taken_38 : decode cX10_taken 38 = .ok (.iload_n 3, 1) := by decide +kernel
theorem dX10_taken_39 : decode cX10_taken 39 = .ok (.iload_n 2, 1) := by decide +kernel
theorem dX10_taken_40 : decode cX10_taken 40 = .ok (.if_icmp .eq 11, 3) := by decide +kernel
theorem dX10_taken_43 : decode cX10_taken 43 = .ok (.iload_n 3, 1) := by decide +kernel
theorem dX10_taken_44 : decode cX10_taken 44 = .ok (.invokestatic 361, 3) := by decide +kernel
theorem dX10_taken_47 : decode cX10_taken 47 = .ok (.istore_n 3, 1) := by decide +kernel
theorem dX10_taken_48 : decode cX10_taken 48 = .ok (.goto (-15), 3) := by decide +kernel
theorem dX10_taken_51 : decode cX10_taken 51 = .ok (.iload_n 3, 1) := by decide +kernel
theorem dX10_taken_52 : decode cX10_taken 52 = .ok (.iload_n 2, 1) := by decide +kernel
theorem dX10_taken_53 : decode cX10_taken 53 = .ok (.if_icmp .ne 14, 3) := by decide +kernel
theorem dX10_taken_56 : decode cX10_taken 56 = .ok (.aload_n 0, 1) := by decide +kernel
theorem dX10_taken_57 : decode cX10_taken 57 = .ok (.getfield 29, 3) := by decide +kernel
theorem dX10_taken_60 : decode cX10_taken 60 = .ok (.iconst 3, 1) := by decide +kernel
theorem dX10_taken_61 : decode cX10_taken 61 = .ok (.iload_n 1, 1) := by decide +kernel
theorem dX10_taken_62 : decode cX10_taken 62 = .ok (.imul, 1) := by decide +kernel
theorem dX10_taken_63 : decode cX10_taken 63 = .ok (.iaload, 1) := by decide +kernel
theorem dX10_taken_64 : decode cX10_taken 64 = .ok (.goto 5, 3) := by decide +kernel
theorem dX10_taken_67 : decode cX10_taken 67 = .ok (.bipush (-13), 2) := by decide +kernel
theorem dX10_taken_69 : decode cX10_taken 69 = .ok (.ireturn, 1) := by decide +kernel
theorem dJ9_floorMod_7cf53_0 : decode cJ9_floorMod_7cf53 0 = .ok (.iload_n 0, 1) := by decide +kernel
theorem dJ9_floorMod_7cf53_1 : decode cJ9_floorMod_7cf53 1 = .ok (.iload_n 1, 1) := by decide +kernel
theorem dJ9_floorMod_7cf53_2 : decode cJ9_floorMod_7cf53 2 = .ok (.irem, 1) := by decide +kernel
theorem dJ9_floorMod_7cf53_3 : decode cJ9_floorMod_7cf53 3 = .ok (.istore_n 2, 1) := by decide +kernel
theorem dJ9_floorMod_7cf53_4 : decode cJ9_floorMod_7cf53 4 = .ok (.iload_n 0, 1) := by decide +kernel
theorem dJ9_floorMod_7cf53_5 : decode cJ9_floorMod_7cf53 5 = .ok (.iload_n 1, 1) := by decide +kernel
theorem dJ9_floorMod_7cf53_6 : decode cJ9_floorMod_7cf53 6 = .ok (.ixor, 1) := by decide +kernel
theorem dJ9_floorMod_7cf53_7 : decode cJ9_floorMod_7cf53 7 = .ok (.ifCond .ge 11, 3) := by decide +kernel
theorem dJ9_floorMod_7cf53_10 : decode cJ9_floorMod_7cf53 10 = .ok (.iload_n 2, 1) := by decide +kernel
theorem dJ9_floorMod_7cf53_11 : decode cJ9_floorMod_7cf53 11 = .ok (.ifCond .eq 7, 3) := by decide +kernel
theorem dJ9_floorMod_7cf53_14 : decode cJ9_floorMod_7cf53 14 = .ok (.iload_n 2, 1) := by decide +kernel
theorem dJ9_floorMod_7cf53_15 : decode cJ9_floorMod_7cf53 15 = .ok (.iload_n 1, 1) := by decide +kernel
theorem dJ9_floorMod_7cf53_16 : decode cJ9_floorMod_7cf53 16 = .ok (.iadd, 1) := by decide +kernel
theorem dJ9_floorMod_7cf53_17 : decode cJ9_floorMod_7cf53 17 = .ok (.ireturn, 1) := by decide +kernel
theorem dJ9_floorMod_7cf53_18 : decode cJ9_floorMod_7cf53 18 = .ok (.iload_n 2, 1) := by decide +kernel
theorem dJ9_floorMod_7cf53_19 : decode cJ9_floorMod_7cf53 19 = .ok (.ireturn, 1) := by decide +kernel
theorem dJ9_max_7cf53_0 : decode cJ9_max_7cf53 0 = .ok (.iload_n 0, 1) := by decide +kernel
theorem dJ9_max_7cf53_1 : decode cJ9_max_7cf53 1 = .ok (.iload_n 1, 1) := by decide +kernel
theorem dJ9_max_7cf53_2 : decode cJ9_max_7cf53 2 = .ok (.if_icmp .lt 7, 3) := by decide +kernel
theorem dJ9_max_7cf53_5 : decode cJ9_max_7cf53 5 = .ok (.iload_n 0, 1) := by decide +kernel
theorem dJ9_max_7cf53_6 : decode cJ9_max_7cf53 6 = .ok (.goto 4, 3) := by decide +kernel
theorem dJ9_max_7cf53_9 : decode cJ9_max_7cf53 9 = .ok (.iload_n 1, 1) := by decide +kernel
theorem dJ9_max_7cf53_10 : decode cJ9_max_7cf53 10 = .ok (.ireturn, 1) := by decide +kernel
theorem dJ9_min_7cf53_0 : decode cJ9_min_7cf53 0 = .ok (.iload_n 0, 1) := by decide +kernel
theorem dJ9_min_7cf53_1 : decode cJ9_min_7cf53 1 = .ok (.iload_n 1, 1) := by decide +kernel
theorem dJ9_min_7cf53_2 : decode cJ9_min_7cf53 2 = .ok (.if_icmp .gt 7, 3) := by decide +kernel
theorem dJ9_min_7cf53_5 : decode cJ9_min_7cf53 5 = .ok (.iload_n 0, 1) := by decide +kernel
theorem dJ9_min_7cf53_6 : decode cJ9_min_7cf53 6 = .ok (.goto 4, 3) := by decide +kernel
theorem dJ9_min_7cf53_9 : decode cJ9_min_7cf53 9 = .ok (.iload_n 1, 1) := by decide +kernel
theorem dJ9_min_7cf53_10 : decode cJ9_min_7cf53 10 = .ok (.ireturn, 1) := by decide +kernel
theorem dJ0_length_8abf5_0 : decode cJ0_length_8abf5 0 = .ok (.aload_n 0, 1) := by decide +kernel
theorem dJ0_length_8abf5_1 : decode cJ0_length_8abf5 1 = .ok (.getfield 9, 3) := by decide +kernel
theorem dJ0_length_8abf5_4 : decode cJ0_length_8abf5 4 = .ok (.arraylength, 1) := by decide +kernel
theorem dJ0_length_8abf5_5 : decode cJ0_length_8abf5 5 = .ok (.aload_n 0, 1) := by decide +kernel
theorem dJ0_length_8abf5_6 : decode cJ0_length_8abf5 6 = .ok (.invokevirtual 335, 3) := by decide +kernel
theorem dJ0_length_8abf5_9 : decode cJ0_length_8abf5 9 = .ok (.ishr, 1) := by decide +kernel
theorem dJ0_length_8abf5_10 : decode cJ0_length_8abf5 10 = .ok (.ireturn, 1) := by decide +kernel
theorem dJ0_charAt_5068e_0 : decode cJ0_charAt_5068e 0 = .ok (.aload_n 0, 1) := by decide +kernel
theorem dJ0_charAt_5068e_1 : decode cJ0_charAt_5068e 1 = .ok (.invokevirtual 492, 3) := by decide +kernel
theorem dJ0_charAt_5068e_4 : decode cJ0_charAt_5068e 4 = .ok (.ifCond .eq 12, 3) := by decide +kernel
theorem dJ0_charAt_5068e_7 : decode cJ0_charAt_5068e 7 = .ok (.aload_n 0, 1) := by decide +kernel
theorem dJ0_charAt_5068e_8 : decode cJ0_charAt_5068e 8 = .ok (.getfield 9, 3) := by decide +kernel
theorem dJ0_charAt_5068e_11 : decode cJ0_charAt_5068e 11 = .ok (.iload_n 1, 1) := by decide +kernel
theorem dJ0_charAt_5068e_12 : decode cJ0_charAt_5068e 12 = .ok (.invokestatic 495, 3) := by decide +kernel
theorem dJ0_charAt_5068e_15 : decode cJ0_charAt_5068e 15 = .ok (.ireturn, 1) := by decide +kernel
theorem dJ0_charAt_5068e_16 : decode cJ0_charAt_5068e 16 = .ok (.aload_n 0, 1) := by decide +kernel
theorem dJ0_charAt_5068e_17 : decode cJ0_charAt_5068e 17 = .ok (.getfield 9, 3) := by decide +kernel
theorem dJ0_charAt_5068e_20 : decode cJ0_charAt_5068e 20 = .ok (.iload_n 1, 1) := by decide +kernel
theorem dJ0_charAt_5068e_21 : decode cJ0_charAt_5068e 21 = .ok (.invokestatic 498, 3) := by decide +kernel
theorem dJ0_charAt_5068e_24 : decode cJ0_charAt_5068e 24 = .ok (.ireturn, 1) := by decide +kernel
theorem dJ0_coder_7d493_0 : decode cJ0_coder_7d493 0 = .ok (.getstatic 38, 3) := by decide +kernel
theorem dJ0_coder_7d493_3 : decode cJ0_coder_7d493 3 = .ok (.ifCond .eq 10, 3) := by decide +kernel
theorem dJ0_coder_7d493_6 : decode cJ0_coder_7d493 6 = .ok (.aload_n 0, 1) := by decide +kernel
theorem dJ0_coder_7d493_7 : decode cJ0_coder_7d493 7 = .ok (.getfield 15, 3) := by decide +kernel
theorem dJ0_coder_7d493_10 : decode cJ0_coder_7d493 10 = .ok (.goto 4, 3) := by decide +kernel
theorem dJ0_coder_7d493_13 : decode cJ0_coder_7d493 13 = .ok (.iconst 1, 1) := by decide +kernel
theorem dJ0_coder_7d493_14 : decode cJ0_coder_7d493 14 = .ok (.ireturn, 1) := by decide +kernel
theorem dJ0_isLatin1_aae02_0 : decode cJ0_isLatin1_aae02 0 = .ok (.getstatic 38, 3) := by decide +kernel
theorem dJ0_isLatin1_aae02_3 : decode cJ0_isLatin1_aae02 3 = .ok (.ifCond .eq 14, 3) := by decide +kernel
theorem dJ0_isLatin1_aae02_6 : decode cJ0_isLatin1_aae02 6 = .ok (.aload_n 0, 1) := by decide +kernel
theorem dJ0_isLatin1_aae02_7 : decode cJ0_isLatin1_aae02 7 = .ok (.getfield 15, 3) := by decide +kernel
theorem dJ0_isLatin1_aae02_10 : decode cJ0_isLatin1_aae02 10 = .ok (.ifCond .ne 7, 3) := by decide +kernel
theorem dJ0_isLatin1_aae02_13 : decode cJ0_isLatin1_aae02 13 = .ok (.iconst 1, 1) := by decide +kernel
theorem dJ0_isLatin1_aae02_14 : decode cJ0_isLatin1_aae02 14 = .ok (.goto 4, 3) := by decide +kernel
theorem dJ0_isLatin1_aae02_17 : decode cJ0_isLatin1_aae02 17 = .ok (.iconst 0, 1) := by decide +kernel
theorem dJ0_isLatin1_aae02_18 : decode cJ0_isLatin1_aae02 18 = .ok (.ireturn, 1) := by decide +kernel
theorem dJ0_checkIndex_df160_0 : decode cJ0_checkIndex_df160 0 = .ok (.iload_n 0, 1) := by decide +kernel
theorem dJ0_checkIndex_df160_1 : decode cJ0_checkIndex_df160 1 = .ok (.iload_n 1, 1) := by decide +kernel
theorem dJ0_checkIndex_df160_2 : decode cJ0_checkIndex_df160 2 = .ok (.getstatic 1053, 3) := by decide +kernel
theorem dJ0_checkIndex_df160_5 : decode cJ0_checkIndex_df160 5 = .ok (.invokestatic 1059, 3) := by decide +kernel
theorem dJ0_checkIndex_df160_8 : decode cJ0_checkIndex_df160 8 = .ok (.pop, 1) := by decide +kernel
theorem dJ0_checkIndex_df160_9 : decode cJ0_checkIndex_df160 9 = .ok (.return_, 1) := by decide +kernel
theorem dJ1_charAt_3b067_0 : decode cJ1_charAt_3b067 0 = .ok (.iload_n 1, 1) := by decide +kernel
theorem dJ1_charAt_3b067_1 : decode cJ1_charAt_3b067 1 = .ok (.aload_n 0, 1) := by decide +kernel
theorem dJ1_charAt_3b067_2 : decode cJ1_charAt_3b067 2 = .ok (.arraylength, 1) := by decide +kernel
theorem dJ1_charAt_3b067_3 : decode cJ1_charAt_3b067 3 = .ok (.invokestatic 9, 3) := by decide +kernel
theorem dJ1_charAt_3b067_6 : decode cJ1_charAt_3b067 6 = .ok (.aload_n 0, 1) := by decide +kernel
theorem dJ1_charAt_3b067_7 : decode cJ1_charAt_3b067 7 = .ok (.iload_n 1, 1) := by decide +kernel
theorem dJ1_charAt_3b067_8 : decode cJ1_charAt_3b067 8 = .ok (.baload, 1) := by decide +kernel
theorem dJ1_charAt_3b067_9 : decode cJ1_charAt_3b067 9 = .ok (.sipush 255, 3) := by decide +kernel
theorem dJ1_charAt_3b067_12 : decode cJ1_charAt_3b067 12 = .ok (.iand, 1) := by decide +kernel
theorem dJ1_charAt_3b067_13 : decode cJ1_charAt_3b067 13 = .ok (.i2c, 1) := by decide +kernel
theorem dJ1_charAt_3b067_14 : decode cJ1_charAt_3b067 14 = .ok (.ireturn, 1) := by decide +kernel
theorem dJ2_getChar_3b067_0 : decode cJ2_getChar_3b067 0 = .ok (.getstatic 44, 3) := by decide +kernel
theorem dJ2_getChar_3b067_3 : decode cJ2_getChar_3b067 3 = .ok (.ifCond .ne 25, 3) := by decide +kernel
theorem dJ2_getChar_3b067_6 : decode cJ2_getChar_3b067 6 = .ok (.iload_n 1, 1) := by decide +kernel
theorem dJ2_getChar_3b067_7 : decode cJ2_getChar_3b067 7 = .ok (.ifCond .lt 11, 3) := by decide +kernel
theorem dJ2_getChar_3b067_10 : decode cJ2_getChar_3b067 10 = .ok (.iload_n 1, 1) := by decide +kernel
theorem dJ2_getChar_3b067_11 : decode cJ2_getChar_3b067 11 = .ok (.aload_n 0, 1) := by decide +kernel
theorem dJ2_getChar_3b067_12 : decode cJ2_getChar_3b067 12 = .ok (.invokestatic 48, 3) := by decide +kernel
theorem dJ2_getChar_3b067_15 : decode cJ2_getChar_3b067 15 = .ok (.if_icmp .lt 13, 3) := by decide +kernel
theorem dJ2_getChar_3b067_18 : decode cJ2_getChar_3b067 18 = .ok (.new 52, 3) := by decide +kernel
theorem dJ2_getChar_3b067_21 : decode cJ2_getChar_3b067 21 = .ok (.dup, 1) := by decide +kernel
theorem dJ2_getChar_3b067_22 : decode cJ2_getChar_3b067 22 = .ok (.ldc 54, 2) := by decide +kernel
theorem dJ2_getChar_3b067_24 : decode cJ2_getChar_3b067 24 = .ok (.invokespecial 56, 3) := by decide +kernel
theorem dJ2_getChar_3b067_27 : decode cJ2_getChar_3b067 27 = .ok (.athrow, 1) := by decide +kernel
theorem dJ2_getChar_3b067_28 : decode cJ2_getChar_3b067 28 = .ok (.iload_n 1, 1) := by decide +kernel
theorem dJ2_getChar_3b067_29 : decode cJ2_getChar_3b067 29 = .ok (.iconst 1, 1) := by decide +kernel
theorem dJ2_getChar_3b067_30 : decode cJ2_getChar_3b067 30 = .ok (.ishl, 1) := by decide +kernel
theorem dJ2_getChar_3b067_31 : decode cJ2_getChar_3b067 31 = .ok (.istore_n 1, 1) := by decide +kernel
theorem dJ2_getChar_3b067_32 : decode cJ2_getChar_3b067 32 = .ok (.aload_n 0, 1) := by decide +kernel
theorem dJ2_getChar_3b067_33 : decode cJ2_getChar_3b067 33 = .ok (.iload_n 1, 1) := by decide +kernel
theorem dJ2_getChar_3b067_34 : decode cJ2_getChar_3b067 34 = .ok (.iinc 1 1, 3) := by decide +kernel
theorem dJ2_getChar_3b067_37 : decode cJ2_getChar_3b067 37 = .ok (.baload, 1) := by decide +kernel
theorem dJ2_getChar_3b067_38 : decode cJ2_getChar_3b067 38 = .ok (.sipush 255, 3) := by decide +kernel
theorem dJ2_getChar_3b067_41 : decode cJ2_getChar_3b067 41 = .ok (.iand, 1) := by decide +kernel
theorem dJ2_getChar_3b067_42 : decode cJ2_getChar_3b067 42 = .ok (.getstatic 59, 3) := by decide +kernel
theorem dJ2_getChar_3b067_45 : decode cJ2_getChar_3b067 45 = .ok (.ishl, 1) := by decide +kernel
theorem dJ2_getChar_3b067_46 : decode cJ2_getChar_3b067 46 = .ok (.aload_n 0, 1) := by decide +kernel
theorem dJ2_getChar_3b067_47 : decode cJ2_getChar_3b067 47 = .ok (.iload_n 1, 1) := by decide +kernel
theorem dJ2_getChar_3b067_48 : decode cJ2_getChar_3b067 48 = .ok (.baload, 1) := by decide +kernel
theorem dJ2_getChar_3b067_49 : decode cJ2_getChar_3b067 49 = .ok (.sipush 255, 3) := by decide +kernel
theorem dJ2_getChar_3b067_52 : decode cJ2_getChar_3b067 52 = .ok (.iand, 1) := by decide +kernel
theorem dJ2_getChar_3b067_53 : decode cJ2_getChar_3b067 53 = .ok (.getstatic 63, 3) := by decide +kernel
theorem dJ2_getChar_3b067_56 : decode cJ2_getChar_3b067 56 = .ok (.ishl, 1) := by decide +kernel
theorem dJ2_getChar_3b067_57 : decode cJ2_getChar_3b067 57 = .ok (.ior, 1) := by decide +kernel
theorem dJ2_getChar_3b067_58 : decode cJ2_getChar_3b067 58 = .ok (.i2c, 1) := by decide +kernel
theorem dJ2_getChar_3b067_59 : decode cJ2_getChar_3b067 59 = .ok (.ireturn, 1) := by decide +kernel
theorem dJ2_length_9d52b_0 : decode cJ2_length_9d52b 0 = .ok (.aload_n 0, 1) := by decide +kernel
theorem dJ2_length_9d52b_1 : decode cJ2_length_9d52b 1 = .ok (.arraylength, 1) := by decide +kernel
theorem dJ2_length_9d52b_2 : decode cJ2_length_9d52b 2 = .ok (.iconst 1, 1) := by decide +kernel
theorem dJ2_length_9d52b_3 : decode cJ2_length_9d52b 3 = .ok (.ishr, 1) := by decide +kernel
theorem dJ2_length_9d52b_4 : decode cJ2_length_9d52b 4 = .ok (.ireturn, 1) := by decide +kernel
theorem dJ2_charAt_3b067_0 : decode cJ2_charAt_3b067 0 = .ok (.iload_n 1, 1) := by decide +kernel
theorem dJ2_charAt_3b067_1 : decode cJ2_charAt_3b067 1 = .ok (.aload_n 0, 1) := by decide +kernel
theorem dJ2_charAt_3b067_2 : decode cJ2_charAt_3b067 2 = .ok (.invokestatic 67, 3) := by decide +kernel
theorem dJ2_charAt_3b067_5 : decode cJ2_charAt_3b067 5 = .ok (.aload_n 0, 1) := by decide +kernel
theorem dJ2_charAt_3b067_6 : decode cJ2_charAt_3b067 6 = .ok (.iload_n 1, 1) := by decide +kernel
theorem dJ2_charAt_3b067_7 : decode cJ2_charAt_3b067 7 = .ok (.invokestatic 71, 3) := by decide +kernel
theorem dJ2_charAt_3b067_10 : decode cJ2_charAt_3b067 10 = .ok (.ireturn, 1) := by decide +kernel
theorem dJ2_checkIndex_2214a_0 : decode cJ2_checkIndex_2214a 0 = .ok (.iload_n 0, 1) := by decide +kernel
theorem dJ2_checkIndex_2214a_1 : decode cJ2_checkIndex_2214a 1 = .ok (.aload_n 1, 1) := by decide +kernel
theorem dJ2_checkIndex_2214a_2 : decode cJ2_checkIndex_2214a 2 = .ok (.invokestatic 48, 3) := by decide +kernel
theorem dJ2_checkIndex_2214a_5 : decode cJ2_checkIndex_2214a 5 = .ok (.invokestatic 414, 3) := by decide +kernel
theorem dJ2_checkIndex_2214a_8 : decode cJ2_checkIndex_2214a 8 = .ok (.return_, 1) := by decide +kernel
theorem dJ3_checkIndex_8e157_0 : decode cJ3_checkIndex_8e157 0 = .ok (.iload_n 0, 1) := by decide +kernel
theorem dJ3_checkIndex_8e157_1 : decode cJ3_checkIndex_8e157 1 = .ok (.ifCond .lt 8, 3) := by decide +kernel
theorem dJ3_checkIndex_8e157_4 : decode cJ3_checkIndex_8e157 4 = .ok (.iload_n 0, 1) := by decide +kernel
theorem dJ3_checkIndex_8e157_5 : decode cJ3_checkIndex_8e157 5 = .ok (.iload_n 1, 1) := by decide +kernel
theorem dJ3_checkIndex_8e157_6 : decode cJ3_checkIndex_8e157 6 = .ok (.if_icmp .lt 10, 3) := by decide +kernel
theorem dJ3_checkIndex_8e157_9 : decode cJ3_checkIndex_8e157 9 = .ok (.aload_n 2, 1) := by decide +kernel
theorem dJ3_checkIndex_8e157_10 : decode cJ3_checkIndex_8e157 10 = .ok (.iload_n 0, 1) := by decide +kernel
theorem dJ3_checkIndex_8e157_11 : decode cJ3_checkIndex_8e157 11 = .ok (.iload_n 1, 1) := by decide +kernel
theorem dJ3_checkIndex_8e157_12 : decode cJ3_checkIndex_8e157 12 = .ok (.invokestatic 95, 3) := by decide +kernel
theorem dJ3_checkIndex_8e157_15 : decode cJ3_checkIndex_8e157 15 = .ok (.athrow, 1) := by decide +kernel
theorem dJ3_checkIndex_8e157_16 : decode cJ3_checkIndex_8e157 16 = .ok (.iload_n 0, 1) := by decide +kernel
theorem dJ3_checkIndex_8e157_17 : decode cJ3_checkIndex_8e157 17 = .ok (.ireturn, 1) := by decide +kernel
