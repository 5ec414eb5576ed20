theorem dX0_init_0 : decode cX0_init 0 = .ok (.aload_n 0, 1) := by decide +kernel
theorem dX0_init_1 : decode cX0_init 1 = .ok (.invokespecial 3, 3) := by decide +kernel
theorem dX0_init_4 : decode cX0_init 4 = .ok (.aload_n 0, 1) := by decide +kernel
theorem dX0_init_5 : decode cX0_init 5 = .ok (.bipush 28, 2) := by decide +kernel
theorem dX0_init_7 : decode cX0_init 7 = .ok (.newarray .long, 2) := by decide +kernel
theorem dX0_init_9 : decode cX0_init 9 = .ok (.putfield 11, 3) := by decide +kernel
theorem dX0_init_12 : decode cX0_init 12 = .ok (.return_, 1) := by decide +kernel
theorem dX0_readGoal_0 : decode cX0_readGoal 0 = .ok (.lconst 0, 1) := by decide +kernel
theorem dX0_readGoal_1 : decode cX0_readGoal 1 = .ok (.lstore 4, 2) := by decide +kernel
theorem dX0_readGoal_3 : decode cX0_readGoal 3 = .ok (.aload_n 0, 1) := by decide +kernel
theorem dX0_readGoal_4 : decode cX0_readGoal 4 = .ok (.aload_n 1, 1) := by decide +kernel
theorem dX0_readGoal_5 : decode cX0_readGoal 5 = .ok (.iload_n 2, 1) := by decide +kernel
theorem dX0_readGoal_6 : decode cX0_readGoal 6 = .ok (.iload_n 3, 1) := by decide +kernel
theorem dX0_readGoal_7 : decode cX0_readGoal 7 = .ok (.invokevirtual 15, 3) := by decide +kernel
theorem dX0_readGoal_10 : decode cX0_readGoal 10 = .ok (.lstore 6, 2) := by decide +kernel
theorem dX0_readGoal_12 : decode cX0_readGoal 12 = .ok (.iconst 0, 1) := by decide +kernel
theorem dX0_readGoal_13 : decode cX0_readGoal 13 = .ok (.istore 8, 2) := by decide +kernel
theorem dX0_readGoal_15 : decode cX0_readGoal 15 = .ok (.iload 8, 2) := by decide +kernel
theorem dX0_readGoal_17 : decode cX0_readGoal 17 = .ok (.sipush 800, 3) := by decide +kernel
theorem dX0_readGoal_20 : decode cX0_readGoal 20 = .ok (.if_icmp .ge 69, 3) := by decide +kernel
theorem dX0_readGoal_23 : decode cX0_readGoal 23 = .ok (.aload_n 1, 1) := by decide +kernel
theorem dX0_readGoal_24 : decode cX0_readGoal 24 = .ok (.getstatic 19, 3) := by decide +kernel
theorem dX0_readGoal_27 : decode cX0_readGoal 27 = .ok (.invokevirtual 25, 3) := by decide +kernel
theorem dX0_readGoal_30 : decode cX0_readGoal 30 = .ok (.ifCond .eq 18, 3) := by decide +kernel
theorem dX0_readGoal_33 : decode cX0_readGoal 33 = .ok (.lload 6, 2) := by decide +kernel
theorem dX0_readGoal_35 : decode cX0_readGoal 35 = .ok (.aload_n 0, 1) := by decide +kernel
theorem dX0_readGoal_36 : decode cX0_readGoal 36 = .ok (.aload_n 1, 1) := by decide +kernel
theorem dX0_readGoal_37 : decode cX0_readGoal 37 = .ok (.iload_n 2, 1) := by decide +kernel
theorem dX0_readGoal_38 : decode cX0_readGoal 38 = .ok (.iload_n 3, 1) := by decide +kernel
theorem dX0_readGoal_39 : decode cX0_readGoal 39 = .ok (.invokevirtual 15, 3) := by decide +kernel
theorem dX0_readGoal_42 : decode cX0_readGoal 42 = .ok (.land, 1) := by decide +kernel
theorem dX0_readGoal_43 : decode cX0_readGoal 43 = .ok (.lstore 6, 2) := by decide +kernel
theorem dX0_readGoal_45 : decode cX0_readGoal 45 = .ok (.goto 38, 3) := by decide +kernel
theorem dX0_readGoal_48 : decode cX0_readGoal 48 = .ok (.aload_n 1, 1) := by decide +kernel
theorem dX0_readGoal_49 : decode cX0_readGoal 49 = .ok (.getstatic 31, 3) := by decide +kernel
theorem dX0_readGoal_52 : decode cX0_readGoal 52 = .ok (.invokevirtual 25, 3) := by decide +kernel
theorem dX0_readGoal_55 : decode cX0_readGoal 55 = .ok (.ifCond .eq 22, 3) := by decide +kernel
theorem dX0_readGoal_58 : decode cX0_readGoal 58 = .ok (.lload 4, 2) := by decide +kernel
theorem dX0_readGoal_60 : decode cX0_readGoal 60 = .ok (.lload 6, 2) := by decide +kernel
theorem dX0_readGoal_62 : decode cX0_readGoal 62 = .ok (.lor, 1) := by decide +kernel
theorem dX0_readGoal_63 : decode cX0_readGoal 63 = .ok (.lstore 4, 2) := by decide +kernel
theorem dX0_readGoal_65 : decode cX0_readGoal 65 = .ok (.aload_n 0, 1) := by decide +kernel
theorem dX0_readGoal_66 : decode cX0_readGoal 66 = .ok (.aload_n 1, 1) := by decide +kernel
theorem dX0_readGoal_67 : decode cX0_readGoal 67 = .ok (.iload_n 2, 1) := by decide +kernel
theorem dX0_readGoal_68 : decode cX0_readGoal 68 = .ok (.iload_n 3, 1) := by decide +kernel
theorem dX0_readGoal_69 : decode cX0_readGoal 69 = .ok (.invokevirtual 15, 3) := by decide +kernel
theorem dX0_readGoal_72 : decode cX0_readGoal 72 = .ok (.lstore 6, 2) := by decide +kernel
theorem dX0_readGoal_74 : decode cX0_readGoal 74 = .ok (.goto 9, 3) := by decide +kernel
theorem dX0_readGoal_77 : decode cX0_readGoal 77 = .ok (.lload 4, 2) := by decide +kernel
theorem dX0_readGoal_79 : decode cX0_readGoal 79 = .ok (.lload 6, 2) := by decide +kernel
theorem dX0_readGoal_81 : decode cX0_readGoal 81 = .ok (.lor, 1) := by decide +kernel
theorem dX0_readGoal_82 : decode cX0_readGoal 82 = .ok (.lreturn, 1) := by decide +kernel
theorem dX0_readGoal_83 : decode cX0_readGoal 83 = .ok (.iinc 8 1, 3) := by decide +kernel
theorem dX0_readGoal_86 : decode cX0_readGoal 86 = .ok (.goto (-71), 3) := by decide +kernel
theorem dX0_readGoal_89 : decode cX0_readGoal 89 = .ok (.lload 4, 2) := by decide +kernel
theorem dX0_readGoal_91 : decode cX0_readGoal 91 = .ok (.lload 6, 2) := by decide +kernel
theorem dX0_readGoal_93 : decode cX0_readGoal 93 = .ok (.lor, 1) := by decide +kernel
theorem dX0_readGoal_94 : decode cX0_readGoal 94 = .ok (.lreturn, 1) := by decide +kernel
theorem dX0_readSingle_0 : decode cX0_readSingle 0 = .ok (.aload_n 1, 1) := by decide +kernel
theorem dX0_readSingle_1 : decode cX0_readSingle 1 = .ok (.invokevirtual 34, 3) := by decide +kernel
theorem dX0_readSingle_4 : decode cX0_readSingle 4 = .ok (.getstatic 38, 3) := by decide +kernel
theorem dX0_readSingle_7 : decode cX0_readSingle 7 = .ok (.if_acmp .eq 13, 3) := by decide +kernel
theorem dX0_readSingle_10 : decode cX0_readSingle 10 = .ok (.aload_n 0, 1) := by decide +kernel
theorem dX0_readSingle_11 : decode cX0_readSingle 11 = .ok (.aload_n 1, 1) := by decide +kernel
theorem dX0_readSingle_12 : decode cX0_readSingle 12 = .ok (.iload_n 2, 1) := by decide +kernel
theorem dX0_readSingle_13 : decode cX0_readSingle 13 = .ok (.iload_n 3, 1) := by decide +kernel
theorem dX0_readSingle_14 : decode cX0_readSingle 14 = .ok (.iconst 1, 1) := by decide +kernel
theorem dX0_readSingle_15 : decode cX0_readSingle 15 = .ok (.iconst 1, 1) := by decide +kernel
theorem dX0_readSingle_16 : decode cX0_readSingle 16 = .ok (.invokevirtual 41, 3) := by decide +kernel
theorem dX0_readSingle_19 : decode cX0_readSingle 19 = .ok (.lreturn, 1) := by decide +kernel
theorem dX0_readSingle_20 : decode cX0_readSingle 20 = .ok (.aload_n 1, 1) := by decide +kernel
theorem dX0_readSingle_21 : decode cX0_readSingle 21 = .ok (.invokevirtual 45, 3) := by decide +kernel
theorem dX0_readSingle_24 : decode cX0_readSingle 24 = .ok (.istore 4, 2) := by decide +kernel
theorem dX0_readSingle_26 : decode cX0_readSingle 26 = .ok (.aload_n 1, 1) := by decide +kernel
theorem dX0_readSingle_27 : decode cX0_readSingle 27 = .ok (.iconst 0, 1) := by decide +kernel
theorem dX0_readSingle_28 : decode cX0_readSingle 28 = .ok (.ldc 49, 2) := by decide +kernel
theorem dX0_readSingle_30 : decode cX0_readSingle 30 = .ok (.invokevirtual 50, 3) := by decide +kernel
theorem dX0_readSingle_33 : decode cX0_readSingle 33 = .ok (.istore 5, 2) := by decide +kernel
theorem dX0_readSingle_35 : decode cX0_readSingle 35 = .ok (.aload_n 1, 1) := by decide +kernel
theorem dX0_readSingle_36 : decode cX0_readSingle 36 = .ok (.getstatic 54, 3) := by decide +kernel
theorem dX0_readSingle_39 : decode cX0_readSingle 39 = .ok (.invokevirtual 25, 3) := by decide +kernel
theorem dX0_readSingle_42 : decode cX0_readSingle 42 = .ok (.ifCond .eq 37, 3) := by decide +kernel
theorem dX0_readSingle_45 : decode cX0_readSingle 45 = .ok (.iload 5, 2) := by decide +kernel
theorem dX0_readSingle_47 : decode cX0_readSingle 47 = .ok (.iconst 1, 1) := by decide +kernel
theorem dX0_readSingle_48 : decode cX0_readSingle 48 = .ok (.if_icmp .lt 10, 3) := by decide +kernel
theorem dX0_readSingle_51 : decode cX0_readSingle 51 = .ok (.iload 5, 2) := by decide +kernel
theorem dX0_readSingle_53 : decode cX0_readSingle 53 = .ok (.bipush 6, 2) := by decide +kernel
theorem dX0_readSingle_55 : decode cX0_readSingle 55 = .ok (.if_icmp .le 11, 3) := by decide +kernel
theorem dX0_readSingle_58 : decode cX0_readSingle 58 = .ok (.aload_n 1, 1) := by decide +kernel
theorem dX0_readSingle_59 : decode cX0_readSingle 59 = .ok (.bipush (-3), 2) := by decide +kernel
theorem dX0_readSingle_61 : decode cX0_readSingle 61 = .ok (.iload 4, 2) := by decide +kernel
theorem dX0_readSingle_63 : decode cX0_readSingle 63 = .ok (.invokevirtual 57, 3) := by decide +kernel
theorem dX0_readSingle_66 : decode cX0_readSingle 66 = .ok (.aload_n 0, 1) := by decide +kernel
theorem dX0_readSingle_67 : decode cX0_readSingle 67 = .ok (.aload_n 1, 1) := by decide +kernel
theorem dX0_readSingle_68 : decode cX0_readSingle 68 = .ok (.iload_n 2, 1) := by decide +kernel
theorem dX0_readSingle_69 : decode cX0_readSingle 69 = .ok (.iload_n 3, 1) := by decide +kernel
theorem dX0_readSingle_70 : decode cX0_readSingle 70 = .ok (.iload 5, 2) := by decide +kernel
theorem dX0_readSingle_72 : decode cX0_readSingle 72 = .ok (.sipush 800, 3) := by decide +kernel
theorem dX0_readSingle_75 : decode cX0_readSingle 75 = .ok (.invokevirtual 41, 3) := by decide +kernel
theorem dX0_readSingle_78 : decode cX0_readSingle 78 = .ok (.lreturn, 1) := by decide +kernel
theorem dX0_readSingle_79 : decode cX0_readSingle 79 = .ok (.iload 5, 2) := by decide +kernel
theorem dX0_readSingle_81 : decode cX0_readSingle 81 = .ok (.ifCond .lt 18, 3) := by decide +kernel
theorem dX0_readSingle_84 : decode cX0_readSingle 84 = .ok (.iload 5, 2) := by decide +kernel
theorem dX0_readSingle_86 : decode cX0_readSingle 86 = .ok (.iload_n 2, 1) := by decide +kernel
theorem dX0_readSingle_87 : decode cX0_readSingle 87 = .ok (.if_icmp .ge 12, 3) := by decide +kernel
theorem dX0_readSingle_90 : decode cX0_readSingle 90 = .ok (.iload 5, 2) := by decide +kernel
theorem dX0_readSingle_92 : decode cX0_readSingle 92 = .ok (.getstatic 61, 3) := by decide +kernel
theorem dX0_readSingle_95 : decode cX0_readSingle 95 = .ok (.arraylength, 1) := by decide +kernel
theorem dX0_readSingle_96 : decode cX0_readSingle 96 = .ok (.if_icmp .lt 13, 3) := by decide +kernel
theorem dX0_readSingle_99 : decode cX0_readSingle 99 = .ok (.aload_n 1, 1) := by decide +kernel
theorem dX0_readSingle_100 : decode cX0_readSingle 100 = .ok (.bipush (-3), 2) := by decide +kernel
theorem dX0_readSingle_102 : decode cX0_readSingle 102 = .ok (.iload 4, 2) := by decide +kernel
theorem dX0_readSingle_104 : decode cX0_readSingle 104 = .ok (.invokevirtual 57, 3) := by decide +kernel
theorem dX0_readSingle_107 : decode cX0_readSingle 107 = .ok (.lconst 0, 1) := by decide +kernel
theorem dX0_readSingle_108 : decode cX0_readSingle 108 = .ok (.lreturn, 1) := by decide +kernel
theorem dX0_readSingle_109 : decode cX0_readSingle 109 = .ok (.getstatic 61, 3) := by decide +kernel
theorem dX0_readSingle_112 : decode cX0_readSingle 112 = .ok (.iload 5, 2) := by decide +kernel
theorem dX0_readSingle_114 : decode cX0_readSingle 114 = .ok (.laload, 1) := by decide +kernel
theorem dX0_readSingle_115 : decode cX0_readSingle 115 = .ok (.lreturn, 1) := by decide +kernel
theorem dX0_readGroup_0 : decode cX0_readGroup 0 = .ok (.aload_n 1, 1) := by decide +kernel
theorem dX0_readGroup_1 : decode cX0_readGroup 1 = .ok (.iload_n 3, 1) := by decide +kernel
theorem dX0_readGroup_2 : decode cX0_readGroup 2 = .ok (.invokevirtual 64, 3) := by decide +kernel
theorem dX0_readGroup_5 : decode cX0_readGroup 5 = .ok (.ifCond .ne 5, 3) := by decide +kernel
theorem dX0_readGroup_8 : decode cX0_readGroup 8 = .ok (.lconst 0, 1) := by decide +kernel
theorem dX0_readGroup_9 : decode cX0_readGroup 9 = .ok (.lreturn, 1) := by decide +kernel
theorem dX0_readGroup_10 : decode cX0_readGroup 10 = .ok (.iconst 0, 1) := by decide +kernel
theorem dX0_readGroup_11 : decode cX0_readGroup 11 = .ok (.istore 6, 2) := by decide +kernel
theorem dX0_readGroup_13 : decode cX0_readGroup 13 = .ok (.iload 6, 2) := by decide +kernel
theorem dX0_readGroup_15 : decode cX0_readGroup 15 = .ok (.bipush 7, 2) := by decide +kernel
theorem dX0_readGroup_17 : decode cX0_readGroup 17 = .ok (.if_icmp .ge 28, 3) := by decide +kernel
theorem dX0_readGroup_20 : decode cX0_readGroup 20 = .ok (.aload_n 0, 1) := by decide +kernel
theorem dX0_readGroup_21 : decode cX0_readGroup 21 = .ok (.iload_n 3, 1) := by decide +kernel
theorem dX0_readGroup_22 : decode cX0_readGroup 22 = .ok (.iload 6, 2) := by decide +kernel
theorem dX0_readGroup_24 : decode cX0_readGroup 24 = .ok (.iload 6, 2) := by decide +kernel
theorem dX0_readGroup_26 : decode cX0_readGroup 26 = .ok (.ifCond .ne 9, 3) := by decide +kernel
theorem dX0_readGroup_29 : decode cX0_readGroup 29 = .ok (.ldc2_w 68, 3) := by decide +kernel
theorem dX0_readGroup_32 : decode cX0_readGroup 32 = .ok (.goto 4, 3) := by decide +kernel
theorem dX0_readGroup_35 : decode cX0_readGroup 35 = .ok (.lconst 0, 1) := by decide +kernel
theorem dX0_readGroup_36 : decode cX0_readGroup 36 = .ok (.invokevirtual 70, 3) := by decide +kernel
theorem dX0_readGroup_39 : decode cX0_readGroup 39 = .ok (.iinc 6 1, 3) := by decide +kernel
theorem dX0_readGroup_42 : decode cX0_readGroup 42 = .ok (.goto (-29), 3) := by decide +kernel
theorem dX0_readGroup_45 : decode cX0_readGroup 45 = .ok (.aload_n 0, 1) := by decide +kernel
theorem dX0_readGroup_46 : decode cX0_readGroup 46 = .ok (.iload_n 3, 1) := by decide +kernel
theorem dX0_readGroup_47 : decode cX0_readGroup 47 = .ok (.aload_n 0, 1) := by decide +kernel
theorem dX0_readGroup_48 : decode cX0_readGroup 48 = .ok (.aload_n 1, 1) := by decide +kernel
theorem dX0_readGroup_49 : decode cX0_readGroup 49 = .ok (.iload_n 2, 1) := by decide +kernel
theorem dX0_readGroup_50 : decode cX0_readGroup 50 = .ok (.iload_n 3, 1) := by decide +kernel
theorem dX0_readGroup_51 : decode cX0_readGroup 51 = .ok (.iconst 1, 1) := by decide +kernel
theorem dX0_readGroup_52 : decode cX0_readGroup 52 = .ok (.iadd, 1) := by decide +kernel
theorem dX0_readGroup_53 : decode cX0_readGroup 53 = .ok (.invokevirtual 74, 3) := by decide +kernel
theorem dX0_readGroup_56 : decode cX0_readGroup 56 = .ok (.invokevirtual 77, 3) := by decide +kernel
theorem dX0_readGroup_59 : decode cX0_readGroup 59 = .ok (.iconst 1, 1) := by decide +kernel
theorem dX0_readGroup_60 : decode cX0_readGroup 60 = .ok (.istore 6, 2) := by decide +kernel
theorem dX0_readGroup_62 : decode cX0_readGroup 62 = .ok (.iload 6, 2) := by decide +kernel
theorem dX0_readGroup_64 : decode cX0_readGroup 64 = .ok (.iload 5, 2) := by decide +kernel
theorem dX0_readGroup_66 : decode cX0_readGroup 66 = .ok (.if_icmp .ge 33, 3) := by decide +kernel
theorem dX0_readGroup_69 : decode cX0_readGroup 69 = .ok (.aload_n 1, 1) := by decide +kernel
theorem dX0_readGroup_70 : decode cX0_readGroup 70 = .ok (.getstatic 81, 3) := by decide +kernel
theorem dX0_readGroup_73 : decode cX0_readGroup 73 = .ok (.invokevirtual 25, 3) := by decide +kernel
theorem dX0_readGroup_76 : decode cX0_readGroup 76 = .ok (.ifCond .eq 23, 3) := by decide +kernel
theorem dX0_readGroup_79 : decode cX0_readGroup 79 = .ok (.aload_n 0, 1) := by decide +kernel
theorem dX0_readGroup_80 : decode cX0_readGroup 80 = .ok (.iload_n 3, 1) := by decide +kernel
theorem dX0_readGroup_81 : decode cX0_readGroup 81 = .ok (.aload_n 0, 1) := by decide +kernel
theorem dX0_readGroup_82 : decode cX0_readGroup 82 = .ok (.aload_n 1, 1) := by decide +kernel
theorem dX0_readGroup_83 : decode cX0_readGroup 83 = .ok (.iload_n 2, 1) := by decide +kernel
theorem dX0_readGroup_84 : decode cX0_readGroup 84 = .ok (.iload_n 3, 1) := by decide +kernel
theorem dX0_readGroup_85 : decode cX0_readGroup 85 = .ok (.iconst 1, 1) := by decide +kernel
theorem dX0_readGroup_86 : decode cX0_readGroup 86 = .ok (.iadd, 1) := by decide +kernel
theorem dX0_readGroup_87 : decode cX0_readGroup 87 = .ok (.invokevirtual 74, 3) := by decide +kernel
theorem dX0_readGroup_90 : decode cX0_readGroup 90 = .ok (.invokevirtual 77, 3) := by decide +kernel
theorem dX0_readGroup_93 : decode cX0_readGroup 93 = .ok (.iinc 6 1, 3) := by decide +kernel
theorem dX0_readGroup_96 : decode cX0_readGroup 96 = .ok (.goto (-34), 3) := by decide +kernel
theorem dX0_readGroup_99 : decode cX0_readGroup 99 = .ok (.aload_n 1, 1) := by decide +kernel
theorem dX0_readGroup_100 : decode cX0_readGroup 100 = .ok (.getstatic 84, 3) := by decide +kernel
theorem dX0_readGroup_103 : decode cX0_readGroup 103 = .ok (.invokevirtual 87, 3) := by decide +kernel
theorem dX0_readGroup_106 : decode cX0_readGroup 106 = .ok (.aload_n 0, 1) := by decide +kernel
theorem dX0_readGroup_107 : decode cX0_readGroup 107 = .ok (.iload_n 3, 1) := by decide +kernel
theorem dX0_readGroup_108 : decode cX0_readGroup 108 = .ok (.iload 4, 2) := by decide +kernel
theorem dX0_readGroup_110 : decode cX0_readGroup 110 = .ok (.invokevirtual 91, 3) := by decide +kernel
theorem dX0_readGroup_113 : decode cX0_readGroup 113 = .ok (.lreturn, 1) := by decide +kernel
theorem dX0_tally_0 : decode cX0_tally 0 = .ok (.bipush 6, 2) := by decide +kernel
theorem dX0_tally_2 : decode cX0_tally 2 = .ok (.istore 4, 2) := by decide +kernel
theorem dX0_tally_4 : decode cX0_tally 4 = .ok (.iload 4, 2) := by decide +kernel
theorem dX0_tally_6 : decode cX0_tally 6 = .ok (.ifCond .le 35, 3) := by decide +kernel
theorem dX0_tally_9 : decode cX0_tally 9 = .ok (.aload_n 0, 1) := by decide +kernel
theorem dX0_tally_10 : decode cX0_tally 10 = .ok (.iload_n 1, 1) := by decide +kernel
theorem dX0_tally_11 : decode cX0_tally 11 = .ok (.iload 4, 2) := by decide +kernel
theorem dX0_tally_13 : decode cX0_tally 13 = .ok (.aload_n 0, 1) := by decide +kernel
theorem dX0_tally_14 : decode cX0_tally 14 = .ok (.iload_n 1, 1) := by decide +kernel
theorem dX0_tally_15 : decode cX0_tally 15 = .ok (.iload 4, 2) := by decide +kernel
theorem dX0_tally_17 : decode cX0_tally 17 = .ok (.invokevirtual 91, 3) := by decide +kernel
theorem dX0_tally_20 : decode cX0_tally 20 = .ok (.aload_n 0, 1) := by decide +kernel
theorem dX0_tally_21 : decode cX0_tally 21 = .ok (.iload_n 1, 1) := by decide +kernel
theorem dX0_tally_22 : decode cX0_tally 22 = .ok (.iload 4, 2) := by decide +kernel
theorem dX0_tally_24 : decode cX0_tally 24 = .ok (.iconst 1, 1) := by decide +kernel
theorem dX0_tally_25 : decode cX0_tally 25 = .ok (.isub, 1) := by decide +kernel
theorem dX0_tally_26 : decode cX0_tally 26 = .ok (.invokevirtual 91, 3) := by decide +kernel
theorem dX0_tally_29 : decode cX0_tally 29 = .ok (.lload_n 2, 1) := by decide +kernel
theorem dX0_tally_30 : decode cX0_tally 30 = .ok (.land, 1) := by decide +kernel
theorem dX0_tally_31 : decode cX0_tally 31 = .ok (.lor, 1) := by decide +kernel
theorem dX0_tally_32 : decode cX0_tally 32 = .ok (.invokevirtual 70, 3) := by decide +kernel
theorem dX0_tally_35 : decode cX0_tally 35 = .ok (.iinc 4 (-1), 3) := by decide +kernel
theorem dX0_tally_38 : decode cX0_tally 38 = .ok (.goto (-34), 3) := by decide +kernel
theorem dX0_tally_41 : decode cX0_tally 41 = .ok (.return_, 1) := by decide +kernel
theorem dX0_tallied_0 : decode cX0_tallied 0 = .ok (.iload_n 1, 1) := by decide +kernel
theorem dX0_tallied_1 : decode cX0_tallied 1 = .ok (.bipush 7, 2) := by decide +kernel
theorem dX0_tallied_3 : decode cX0_tallied 3 = .ok (.imul, 1) := by decide +kernel
theorem dX0_tallied_4 : decode cX0_tallied 4 = .ok (.iload_n 2, 1) := by decide +kernel
theorem dX0_tallied_5 : decode cX0_tallied 5 = .ok (.iadd, 1) := by decide +kernel
theorem dX0_tallied_6 : decode cX0_tallied 6 = .ok (.istore_n 3, 1) := by decide +kernel
theorem dX0_tallied_7 : decode cX0_tallied 7 = .ok (.iload_n 3, 1) := by decide +kernel
theorem dX0_tallied_8 : decode cX0_tallied 8 = .ok (.ifCond .lt 21, 3) := by decide +kernel
theorem dX0_tallied_11 : decode cX0_tallied 11 = .ok (.iload_n 3, 1) := by decide +kernel
theorem dX0_tallied_12 : decode cX0_tallied 12 = .ok (.aload_n 0, 1) := by decide +kernel
theorem dX0_tallied_13 : decode cX0_tallied 13 = .ok (.getfield 11, 3) := by decide +kernel
theorem dX0_tallied_16 : decode cX0_tallied 16 = .ok (.arraylength, 1) := by decide +kernel
theorem dX0_tallied_17 : decode cX0_tallied 17 = .ok (.if_icmp .ge 12, 3) := by decide +kernel
theorem dX0_tallied_20 : decode cX0_tallied 20 = .ok (.aload_n 0, 1) := by decide +kernel
theorem dX0_tallied_21 : decode cX0_tallied 21 = .ok (.getfield 11, 3) := by decide +kernel
theorem dX0_tallied_24 : decode cX0_tallied 24 = .ok (.iload_n 3, 1) := by decide +kernel
theorem dX0_tallied_25 : decode cX0_tallied 25 = .ok (.laload, 1) := by decide +kernel
theorem dX0_tallied_26 : decode cX0_tallied 26 = .ok (.goto 4, 3) := by decide +kernel
theorem dX0_tallied_29 : decode cX0_tallied 29 = .ok (.lconst 0, 1) := by decide +kernel
theorem dX0_tallied_30 : decode cX0_tallied 30 = .ok (.lreturn, 1) := by decide +kernel
theorem dX0_putTally_0 : decode cX0_putTally 0 = .ok (.iload_n 1, 1) := by decide +kernel
theorem dX0_putTally_1 : decode cX0_putTally 1 = .ok (.bipush 7, 2) := by decide +kernel
theorem dX0_putTally_3 : decode cX0_putTally 3 = .ok (.imul, 1) := by decide +kernel
theorem dX0_putTally_4 : decode cX0_putTally 4 = .ok (.iload_n 2, 1) := by decide +kernel
theorem dX0_putTally_5 : decode cX0_putTally 5 = .ok (.iadd, 1) := by decide +kernel
theorem dX0_putTally_6 : decode cX0_putTally 6 = .ok (.istore 5, 2) := by decide +kernel
theorem dX0_putTally_8 : decode cX0_putTally 8 = .ok (.iload 5, 2) := by decide +kernel
theorem dX0_putTally_10 : decode cX0_putTally 10 = .ok (.ifCond .lt 21, 3) := by decide +kernel
theorem dX0_putTally_13 : decode cX0_putTally 13 = .ok (.iload 5, 2) := by decide +kernel
theorem dX0_putTally_15 : decode cX0_putTally 15 = .ok (.aload_n 0, 1) := by decide +kernel
theorem dX0_putTally_16 : decode cX0_putTally 16 = .ok (.getfield 11, 3) := by decide +kernel
theorem dX0_putTally_19 : decode cX0_putTally 19 = .ok (.arraylength, 1) := by decide +kernel
theorem dX0_putTally_20 : decode cX0_putTally 20 = .ok (.if_icmp .ge 11, 3) := by decide +kernel
theorem dX0_putTally_23 : decode cX0_putTally 23 = .ok (.aload_n 0, 1) := by decide +kernel
theorem dX0_putTally_24 : decode cX0_putTally 24 = .ok (.getfield 11, 3) := by decide +kernel
theorem dX0_putTally_27 : decode cX0_putTally 27 = .ok (.iload 5, 2) := by decide +kernel
theorem dX0_putTally_29 : decode cX0_putTally 29 = .ok (.lload_n 3, 1) := by decide +kernel
theorem dX0_putTally_30 : decode cX0_putTally 30 = .ok (.lastore, 1) := by decide +kernel
theorem dX0_putTally_31 : decode cX0_putTally 31 = .ok (.return_, 1) := by decide +kernel
theorem dX1_init_0 : decode cX1_init 0 = .ok (.aload_n 0, 1) := by decide +kernel
theorem dX1_init_1 : decode cX1_init 1 = .ok (.invokespecial 3, 3) := by decide +kernel
theorem dX1_init_4 : decode cX1_init 4 = .ok (.aload_n 0, 1) := by decide +kernel
theorem dX1_init_5 : decode cX1_init 5 = .ok (.bipush 8, 2) := by decide +kernel
theorem dX1_init_7 : decode cX1_init 7 = .ok (.anewarray 9, 3) := by decide +kernel
theorem dX1_init_10 : decode cX1_init 10 = .ok (.putfield 11, 3) := by decide +kernel
theorem dX1_init_13 : decode cX1_init 13 = .ok (.aload_n 0, 1) := by decide +kernel
theorem dX1_init_14 : decode cX1_init 14 = .ok (.iconst 0, 1) := by decide +kernel
theorem dX1_init_15 : decode cX1_init 15 = .ok (.putfield 17, 3) := by decide +kernel
theorem dX1_init_18 : decode cX1_init 18 = .ok (.aload_n 0, 1) := by decide +kernel
theorem dX1_init_19 : decode cX1_init 19 = .ok (.iconst 0, 1) := by decide +kernel
theorem dX1_init_20 : decode cX1_init 20 = .ok (.putfield 21, 3) := by decide +kernel
theorem dX1_init_23 : decode cX1_init 23 = .ok (.iconst 0, 1) := by decide +kernel
theorem dX1_init_24 : decode cX1_init 24 = .ok (.istore_n 1, 1) := by decide +kernel
theorem dX1_init_25 : decode cX1_init 25 = .ok (.iload_n 1, 1) := by decide +kernel
theorem dX1_init_26 : decode cX1_init 26 = .ok (.bipush 8, 2) := by decide +kernel
theorem dX1_init_28 : decode cX1_init 28 = .ok (.if_icmp .ge 22, 3) := by decide +kernel
theorem dX1_init_31 : decode cX1_init 31 = .ok (.aload_n 0, 1) := by decide +kernel
theorem dX1_init_32 : decode cX1_init 32 = .ok (.getfield 11, 3) := by decide +kernel
theorem dX1_init_35 : decode cX1_init 35 = .ok (.iload_n 1, 1) := by decide +kernel
theorem dX1_init_36 : decode cX1_init 36 = .ok (.new 9, 3) := by decide +kernel
theorem dX1_init_39 : decode cX1_init 39 = .ok (.dup, 1) := by decide +kernel
theorem dX1_init_40 : decode cX1_init 40 = .ok (.invokespecial 24, 3) := by decide +kernel
theorem dX1_init_43 : decode cX1_init 43 = .ok (.aastore, 1) := by decide +kernel
theorem dX1_init_44 : decode cX1_init 44 = .ok (.iinc 1 1, 3) := by decide +kernel
theorem dX1_init_47 : decode cX1_init 47 = .ok (.goto (-22), 3) := by decide +kernel
theorem dX1_init_50 : decode cX1_init 50 = .ok (.return_, 1) := by decide +kernel
theorem dX1_remember_0 : decode cX1_remember 0 = .ok (.aload_n 0, 1) := by decide +kernel
theorem dX1_remember_1 : decode cX1_remember 1 = .ok (.getfield 17, 3) := by decide +kernel
theorem dX1_remember_4 : decode cX1_remember 4 = .ok (.ifCond .lt 25, 3) := by decide +kernel
theorem dX1_remember_7 : decode cX1_remember 7 = .ok (.aload_n 0, 1) := by decide +kernel
theorem dX1_remember_8 : decode cX1_remember 8 = .ok (.getfield 17, 3) := by decide +kernel
theorem dX1_remember_11 : decode cX1_remember 11 = .ok (.bipush 8, 2) := by decide +kernel
theorem dX1_remember_13 : decode cX1_remember 13 = .ok (.if_icmp .ge 16, 3) := by decide +kernel
theorem dX1_remember_16 : decode cX1_remember 16 = .ok (.aload_n 0, 1) := by decide +kernel
theorem dX1_remember_17 : decode cX1_remember 17 = .ok (.getfield 11, 3) := by decide +kernel
theorem dX1_remember_20 : decode cX1_remember 20 = .ok (.aload_n 0, 1) := by decide +kernel
theorem dX1_remember_21 : decode cX1_remember 21 = .ok (.getfield 17, 3) := by decide +kernel
theorem dX1_remember_24 : decode cX1_remember 24 = .ok (.aaload, 1) := by decide +kernel
theorem dX1_remember_25 : decode cX1_remember 25 = .ok (.aload_n 1, 1) := by decide +kernel
theorem dX1_remember_26 : decode cX1_remember 26 = .ok (.invokevirtual 25, 3) := by decide +kernel
theorem dX1_remember_29 : decode cX1_remember 29 = .ok (.aload_n 0, 1) := by decide +kernel
theorem dX1_remember_30 : decode cX1_remember 30 = .ok (.aload_n 0, 1) := by decide +kernel
theorem dX1_remember_31 : decode cX1_remember 31 = .ok (.getfield 17, 3) := by decide +kernel
theorem dX1_remember_34 : decode cX1_remember 34 = .ok (.iconst 1, 1) := by decide +kernel
theorem dX1_remember_35 : decode cX1_remember 35 = .ok (.iadd, 1) := by decide +kernel
theorem dX1_remember_36 : decode cX1_remember 36 = .ok (.bipush 8, 2) := by decide +kernel
theorem dX1_remember_38 : decode cX1_remember 38 = .ok (.irem, 1) := by decide +kernel
theorem dX1_remember_39 : decode cX1_remember 39 = .ok (.putfield 17, 3) := by decide +kernel
theorem dX1_remember_42 : decode cX1_remember 42 = .ok (.aload_n 0, 1) := by decide +kernel
theorem dX1_remember_43 : decode cX1_remember 43 = .ok (.aload_n 0, 1) := by decide +kernel
theorem dX1_remember_44 : decode cX1_remember 44 = .ok (.getfield 21, 3) := by decide +kernel
theorem dX1_remember_47 : decode cX1_remember 47 = .ok (.iconst 1, 1) := by decide +kernel
theorem dX1_remember_48 : decode cX1_remember 48 = .ok (.iadd, 1) := by decide +kernel
theorem dX1_remember_49 : decode cX1_remember 49 = .ok (.bipush 8, 2) := by decide +kernel
theorem dX1_remember_51 : decode cX1_remember 51 = .ok (.invokestatic 29, 3) := by decide +kernel
theorem dX1_remember_54 : decode cX1_remember 54 = .ok (.putfield 21, 3) := by decide +kernel
theorem dX1_remember_57 : decode cX1_remember 57 = .ok (.return_, 1) := by decide +kernel
theorem dX2_init_0 : decode cX2_init 0 = .ok (.aload_n 0, 1) := by decide +kernel
theorem dX2_init_1 : decode cX2_init 1 = .ok (.invokespecial 3, 3) := by decide +kernel
theorem dX2_init_4 : decode cX2_init 4 = .ok (.aload_n 0, 1) := by decide +kernel
theorem dX2_init_5 : decode cX2_init 5 = .ok (.bipush 8, 2) := by decide +kernel
theorem dX2_init_7 : decode cX2_init 7 = .ok (.newarray .int, 2) := by decide +kernel
theorem dX2_init_9 : decode cX2_init 9 = .ok (.putfield 9, 3) := by decide +kernel
theorem dX2_init_12 : decode cX2_init 12 = .ok (.aload_n 0, 1) := by decide +kernel
theorem dX2_init_13 : decode cX2_init 13 = .ok (.bipush 40, 2) := by decide +kernel
theorem dX2_init_15 : decode cX2_init 15 = .ok (.newarray .int, 2) := by decide +kernel
theorem dX2_init_17 : decode cX2_init 17 = .ok (.putfield 15, 3) := by decide +kernel
theorem dX2_init_20 : decode cX2_init 20 = .ok (.aload_n 0, 1) := by decide +kernel
theorem dX2_init_21 : decode cX2_init 21 = .ok (.iconst 0, 1) := by decide +kernel
theorem dX2_init_22 : decode cX2_init 22 = .ok (.putfield 18, 3) := by decide +kernel
theorem dX2_init_25 : decode cX2_init 25 = .ok (.aload_n 0, 1) := by decide +kernel
theorem dX2_init_26 : decode cX2_init 26 = .ok (.iconst 0, 1) := by decide +kernel
theorem dX2_init_27 : decode cX2_init 27 = .ok (.putfield 22, 3) := by decide +kernel
theorem dX2_init_30 : decode cX2_init 30 = .ok (.aload_n 0, 1) := by decide +kernel
theorem dX2_init_31 : decode cX2_init 31 = .ok (.bipush 6, 2) := by decide +kernel
theorem dX2_init_33 : decode cX2_init 33 = .ok (.anewarray 25, 3) := by decide +kernel
theorem dX2_init_36 : decode cX2_init 36 = .ok (.putfield 27, 3) := by decide +kernel
theorem dX2_init_39 : decode cX2_init 39 = .ok (.aload_n 0, 1) := by decide +kernel
theorem dX2_init_40 : decode cX2_init 40 = .ok (.iconst 0, 1) := by decide +kernel
theorem dX2_init_41 : decode cX2_init 41 = .ok (.putfield 31, 3) := by decide +kernel
theorem dX2_init_44 : decode cX2_init 44 = .ok (.aload_n 0, 1) := by decide +kernel
theorem dX2_init_45 : decode cX2_init 45 = .ok (.sipush 800, 3) := by decide +kernel
theorem dX2_init_48 : decode cX2_init 48 = .ok (.newarray .int, 2) := by decide +kernel
theorem dX2_init_50 : decode cX2_init 50 = .ok (.putfield 34, 3) := by decide +kernel
theorem dX2_init_53 : decode cX2_init 53 = .ok (.aload_n 0, 1) := by decide +kernel
theorem dX2_init_54 : decode cX2_init 54 = .ok (.iconst 0, 1) := by decide +kernel
theorem dX2_init_55 : decode cX2_init 55 = .ok (.putfield 37, 3) := by decide +kernel
theorem dX2_init_58 : decode cX2_init 58 = .ok (.iconst 0, 1) := by decide +kernel
theorem dX2_init_59 : decode cX2_init 59 = .ok (.istore_n 1, 1) := by decide +kernel
theorem dX2_init_60 : decode cX2_init 60 = .ok (.iload_n 1, 1) := by decide +kernel
theorem dX2_init_61 : decode cX2_init 61 = .ok (.bipush 6, 2) := by decide +kernel
theorem dX2_init_63 : decode cX2_init 63 = .ok (.if_icmp .ge 22, 3) := by decide +kernel
theorem dX2_init_66 : decode cX2_init 66 = .ok (.aload_n 0, 1) := by decide +kernel
theorem dX2_init_67 : decode cX2_init 67 = .ok (.getfield 27, 3) := by decide +kernel
theorem dX2_init_70 : decode cX2_init 70 = .ok (.iload_n 1, 1) := by decide +kernel
theorem dX2_init_71 : decode cX2_init 71 = .ok (.new 25, 3) := by decide +kernel
theorem dX2_init_74 : decode cX2_init 74 = .ok (.dup, 1) := by decide +kernel
theorem dX2_init_75 : decode cX2_init 75 = .ok (.invokespecial 40, 3) := by decide +kernel
theorem dX2_init_78 : decode cX2_init 78 = .ok (.aastore, 1) := by decide +kernel
theorem dX2_init_79 : decode cX2_init 79 = .ok (.iinc 1 1, 3) := by decide +kernel
theorem dX2_init_82 : decode cX2_init 82 = .ok (.goto (-22), 3) := by decide +kernel
theorem dX2_init_85 : decode cX2_init 85 = .ok (.return_, 1) := by decide +kernel
theorem dX2_clear_0 : decode cX2_clear 0 = .ok (.aload_n 0, 1) := by decide +kernel
theorem dX2_clear_1 : decode cX2_clear 1 = .ok (.getfield 9, 3) := by decide +kernel
theorem dX2_clear_4 : decode cX2_clear 4 = .ok (.iconst 0, 1) := by decide +kernel
theorem dX2_clear_5 : decode cX2_clear 5 = .ok (.invokestatic 41, 3) := by decide +kernel
theorem dX2_clear_8 : decode cX2_clear 8 = .ok (.aload_n 0, 1) := by decide +kernel
theorem dX2_clear_9 : decode cX2_clear 9 = .ok (.iconst 0, 1) := by decide +kernel
theorem dX2_clear_10 : decode cX2_clear 10 = .ok (.putfield 18, 3) := by decide +kernel
theorem dX2_clear_13 : decode cX2_clear 13 = .ok (.aload_n 0, 1) := by decide +kernel
theorem dX2_clear_14 : decode cX2_clear 14 = .ok (.iconst 0, 1) := by decide +kernel
theorem dX2_clear_15 : decode cX2_clear 15 = .ok (.putfield 22, 3) := by decide +kernel
theorem dX2_clear_18 : decode cX2_clear 18 = .ok (.aload_n 0, 1) := by decide +kernel
theorem dX2_clear_19 : decode cX2_clear 19 = .ok (.iconst 0, 1) := by decide +kernel
theorem dX2_clear_20 : decode cX2_clear 20 = .ok (.putfield 31, 3) := by decide +kernel
theorem dX2_clear_23 : decode cX2_clear 23 = .ok (.aload_n 0, 1) := by decide +kernel
theorem dX2_clear_24 : decode cX2_clear 24 = .ok (.iconst 0, 1) := by decide +kernel
theorem dX2_clear_25 : decode cX2_clear 25 = .ok (.putfield 37, 3) := by decide +kernel
theorem dX2_clear_28 : decode cX2_clear 28 = .ok (.return_, 1) := by decide +kernel
theorem dX2_copyFrom_0 : decode cX2_copyFrom 0 = .ok (.aload_n 1, 1) := by decide +kernel
theorem dX2_copyFrom_1 : decode cX2_copyFrom 1 = .ok (.getfield 9, 3) := by decide +kernel
theorem dX2_copyFrom_4 : decode cX2_copyFrom 4 = .ok (.iconst 0, 1) := by decide +kernel
theorem dX2_copyFrom_5 : decode cX2_copyFrom 5 = .ok (.aload_n 0, 1) := by decide +kernel
theorem dX2_copyFrom_6 : decode cX2_copyFrom 6 = .ok (.getfield 9, 3) := by decide +kernel
theorem dX2_copyFrom_9 : decode cX2_copyFrom 9 = .ok (.iconst 0, 1) := by decide +kernel
theorem dX2_copyFrom_10 : decode cX2_copyFrom 10 = .ok (.bipush 8, 2) := by decide +kernel
theorem dX2_copyFrom_12 : decode cX2_copyFrom 12 = .ok (.invokestatic 47, 3) := by decide +kernel
theorem dX2_copyFrom_15 : decode cX2_copyFrom 15 = .ok (.aload_n 1, 1) := by decide +kernel
theorem dX2_copyFrom_16 : decode cX2_copyFrom 16 = .ok (.getfield 15, 3) := by decide +kernel
theorem dX2_copyFrom_19 : decode cX2_copyFrom 19 = .ok (.iconst 0, 1) := by decide +kernel
theorem dX2_copyFrom_20 : decode cX2_copyFrom 20 = .ok (.aload_n 0, 1) := by decide +kernel
theorem dX2_copyFrom_21 : decode cX2_copyFrom 21 = .ok (.getfield 15, 3) := by decide +kernel
theorem dX2_copyFrom_24 : decode cX2_copyFrom 24 = .ok (.iconst 0, 1) := by decide +kernel
theorem dX2_copyFrom_25 : decode cX2_copyFrom 25 = .ok (.bipush 40, 2) := by decide +kernel
theorem dX2_copyFrom_27 : decode cX2_copyFrom 27 = .ok (.invokestatic 47, 3) := by decide +kernel
theorem dX2_copyFrom_30 : decode cX2_copyFrom 30 = .ok (.aload_n 0, 1) := by decide +kernel
theorem dX2_copyFrom_31 : decode cX2_copyFrom 31 = .ok (.aload_n 1, 1) := by decide +kernel
theorem dX2_copyFrom_32 : decode cX2_copyFrom 32 = .ok (.getfield 18, 3) := by decide +kernel
theorem dX2_copyFrom_35 : decode cX2_copyFrom 35 = .ok (.putfield 18, 3) := by decide +kernel
theorem dX2_copyFrom_38 : decode cX2_copyFrom 38 = .ok (.aload_n 0, 1) := by decide +kernel
theorem dX2_copyFrom_39 : decode cX2_copyFrom 39 = .ok (.aload_n 1, 1) := by decide +kernel
theorem dX2_copyFrom_40 : decode cX2_copyFrom 40 = .ok (.getfield 22, 3) := by decide +kernel
theorem dX2_copyFrom_43 : decode cX2_copyFrom 43 = .ok (.putfield 22, 3) := by decide +kernel
theorem dX2_copyFrom_46 : decode cX2_copyFrom 46 = .ok (.aload_n 0, 1) := by decide +kernel
theorem dX2_copyFrom_47 : decode cX2_copyFrom 47 = .ok (.aload_n 1, 1) := by decide +kernel
theorem dX2_copyFrom_48 : decode cX2_copyFrom 48 = .ok (.getfield 31, 3) := by decide +kernel
theorem dX2_copyFrom_51 : decode cX2_copyFrom 51 = .ok (.putfield 31, 3) := by decide +kernel
theorem dX2_copyFrom_54 : decode cX2_copyFrom 54 = .ok (.iconst 0, 1) := by decide +kernel
theorem dX2_copyFrom_55 : decode cX2_copyFrom 55 = .ok (.istore_n 2, 1) := by decide +kernel
theorem dX2_copyFrom_56 : decode cX2_copyFrom 56 = .ok (.iload_n 2, 1) := by decide +kernel
theorem dX2_copyFrom_57 : decode cX2_copyFrom 57 = .ok (.aload_n 0, 1) := by decide +kernel
theorem dX2_copyFrom_58 : decode cX2_copyFrom 58 = .ok (.getfield 31, 3) := by decide +kernel
theorem dX2_copyFrom_61 : decode cX2_copyFrom 61 = .ok (.if_icmp .ge 30, 3) := by decide +kernel
theorem dX2_copyFrom_64 : decode cX2_copyFrom 64 = .ok (.iload_n 2, 1) := by decide +kernel
theorem dX2_copyFrom_65 : decode cX2_copyFrom 65 = .ok (.bipush 6, 2) := by decide +kernel
theorem dX2_copyFrom_67 : decode cX2_copyFrom 67 = .ok (.if_icmp .ge 24, 3) := by decide +kernel
theorem dX2_copyFrom_70 : decode cX2_copyFrom 70 = .ok (.aload_n 0, 1) := by decide +kernel
theorem dX2_copyFrom_71 : decode cX2_copyFrom 71 = .ok (.getfield 27, 3) := by decide +kernel
theorem dX2_copyFrom_74 : decode cX2_copyFrom 74 = .ok (.iload_n 2, 1) := by decide +kernel
theorem dX2_copyFrom_75 : decode cX2_copyFrom 75 = .ok (.aaload, 1) := by decide +kernel
theorem dX2_copyFrom_76 : decode cX2_copyFrom 76 = .ok (.aload_n 1, 1) := by decide +kernel
theorem dX2_copyFrom_77 : decode cX2_copyFrom 77 = .ok (.getfield 27, 3) := by decide +kernel
theorem dX2_copyFrom_80 : decode cX2_copyFrom 80 = .ok (.iload_n 2, 1) := by decide +kernel
theorem dX2_copyFrom_81 : decode cX2_copyFrom 81 = .ok (.aaload, 1) := by decide +kernel
theorem dX2_copyFrom_82 : decode cX2_copyFrom 82 = .ok (.invokevirtual 53, 3) := by decide +kernel
theorem dX2_copyFrom_85 : decode cX2_copyFrom 85 = .ok (.iinc 2 1, 3) := by decide +kernel
theorem dX2_copyFrom_88 : decode cX2_copyFrom 88 = .ok (.goto (-32), 3) := by decide +kernel
theorem dX2_copyFrom_91 : decode cX2_copyFrom 91 = .ok (.aload_n 0, 1) := by decide +kernel
theorem dX2_copyFrom_92 : decode cX2_copyFrom 92 = .ok (.aload_n 1, 1) := by decide +kernel
theorem dX2_copyFrom_93 : decode cX2_copyFrom 93 = .ok (.getfield 37, 3) := by decide +kernel
theorem dX2_copyFrom_96 : decode cX2_copyFrom 96 = .ok (.putfield 37, 3) := by decide +kernel
theorem dX2_copyFrom_99 : decode cX2_copyFrom 99 = .ok (.iconst 0, 1) := by decide +kernel
theorem dX2_copyFrom_100 : decode cX2_copyFrom 100 = .ok (.istore_n 2, 1) := by decide +kernel
theorem dX2_copyFrom_101 : decode cX2_copyFrom 101 = .ok (.iload_n 2, 1) := by decide +kernel
theorem dX2_copyFrom_102 : decode cX2_copyFrom 102 = .ok (.aload_n 0, 1) := by decide +kernel
theorem dX2_copyFrom_103 : decode cX2_copyFrom 103 = .ok (.getfield 37, 3) := by decide +kernel
theorem dX2_copyFrom_106 : decode cX2_copyFrom 106 = .ok (.if_icmp .ge 28, 3) := by decide +kernel
theorem dX2_copyFrom_109 : decode cX2_copyFrom 109 = .ok (.iload_n 2, 1) := by decide +kernel
theorem dX2_copyFrom_110 : decode cX2_copyFrom 110 = .ok (.sipush 800, 3) := by decide +kernel
theorem dX2_copyFrom_113 : decode cX2_copyFrom 113 = .ok (.if_icmp .ge 21, 3) := by decide +kernel
theorem dX2_copyFrom_116 : decode cX2_copyFrom 116 = .ok (.aload_n 0, 1) := by decide +kernel
theorem dX2_copyFrom_117 : decode cX2_copyFrom 117 = .ok (.getfield 34, 3) := by decide +kernel
theorem dX2_copyFrom_120 : decode cX2_copyFrom 120 = .ok (.iload_n 2, 1) := by decide +kernel
theorem dX2_copyFrom_121 : decode cX2_copyFrom 121 = .ok (.aload_n 1, 1) := by decide +kernel
theorem dX2_copyFrom_122 : decode cX2_copyFrom 122 = .ok (.getfield 34, 3) := by decide +kernel
theorem dX2_copyFrom_125 : decode cX2_copyFrom 125 = .ok (.iload_n 2, 1) := by decide +kernel
theorem dX2_copyFrom_126 : decode cX2_copyFrom 126 = .ok (.iaload, 1) := by decide +kernel
theorem dX2_copyFrom_127 : decode cX2_copyFrom 127 = .ok (.iastore, 1) := by decide +kernel
theorem dX2_copyFrom_128 : decode cX2_copyFrom 128 = .ok (.iinc 2 1, 3) := by decide +kernel
theorem dX2_copyFrom_131 : decode cX2_copyFrom 131 = .ok (.goto (-30), 3) := by decide +kernel
theorem dX2_copyFrom_134 : decode cX2_copyFrom 134 = .ok (.return_, 1) := by decide +kernel
theorem dX2_appendCode_0 : decode cX2_appendCode 0 = .ok (.aload_n 0, 1) := by decide +kernel
theorem dX2_appendCode_1 : decode cX2_appendCode 1 = .ok (.getfield 34, 3) := by decide +kernel
theorem dX2_appendCode_4 : decode cX2_appendCode 4 = .ok (.aload_n 0, 1) := by decide +kernel
theorem dX2_appendCode_5 : decode cX2_appendCode 5 = .ok (.getfield 37, 3) := by decide +kernel
theorem dX2_appendCode_8 : decode cX2_appendCode 8 = .ok (.iload_n 1, 1) := by decide +kernel
theorem dX2_appendCode_9 : decode cX2_appendCode 9 = .ok (.invokestatic 57, 3) := by decide +kernel
theorem dX2_appendCode_12 : decode cX2_appendCode 12 = .ok (.aload_n 0, 1) := by decide +kernel
theorem dX2_appendCode_13 : decode cX2_appendCode 13 = .ok (.dup, 1) := by decide +kernel
theorem dX2_appendCode_14 : decode cX2_appendCode 14 = .ok (.getfield 37, 3) := by decide +kernel
theorem dX2_appendCode_17 : decode cX2_appendCode 17 = .ok (.iconst 1, 1) := by decide +kernel
theorem dX2_appendCode_18 : decode cX2_appendCode 18 = .ok (.iadd, 1) := by decide +kernel
theorem dX2_appendCode_19 : decode cX2_appendCode 19 = .ok (.putfield 37, 3) := by decide +kernel
theorem dX2_appendCode_22 : decode cX2_appendCode 22 = .ok (.return_, 1) := by decide +kernel
theorem dX2_enqueue_0 : decode cX2_enqueue 0 = .ok (.aload_n 0, 1) := by decide +kernel
theorem dX2_enqueue_1 : decode cX2_enqueue 1 = .ok (.getfield 15, 3) := by decide +kernel
theorem dX2_enqueue_4 : decode cX2_enqueue 4 = .ok (.aload_n 0, 1) := by decide +kernel
theorem dX2_enqueue_5 : decode cX2_enqueue 5 = .ok (.getfield 18, 3) := by decide +kernel
theorem dX2_enqueue_8 : decode cX2_enqueue 8 = .ok (.iload_n 1, 1) := by decide +kernel
theorem dX2_enqueue_9 : decode cX2_enqueue 9 = .ok (.invokestatic 57, 3) := by decide +kernel
theorem dX2_enqueue_12 : decode cX2_enqueue 12 = .ok (.aload_n 0, 1) := by decide +kernel
theorem dX2_enqueue_13 : decode cX2_enqueue 13 = .ok (.dup, 1) := by decide +kernel
theorem dX2_enqueue_14 : decode cX2_enqueue 14 = .ok (.getfield 18, 3) := by decide +kernel
theorem dX2_enqueue_17 : decode cX2_enqueue 17 = .ok (.iconst 1, 1) := by decide +kernel
theorem dX2_enqueue_18 : decode cX2_enqueue 18 = .ok (.iadd, 1) := by decide +kernel
theorem dX2_enqueue_19 : decode cX2_enqueue 19 = .ok (.putfield 18, 3) := by decide +kernel
theorem dX2_enqueue_22 : decode cX2_enqueue 22 = .ok (.return_, 1) := by decide +kernel
theorem dX2_draw_0 : decode cX2_draw 0 = .ok (.aload_n 0, 1) := by decide +kernel
theorem dX2_draw_1 : decode cX2_draw 1 = .ok (.getfield 18, 3) := by decide +kernel
theorem dX2_draw_4 : decode cX2_draw 4 = .ok (.ifCond .gt 33, 3) := by decide +kernel
theorem dX2_draw_7 : decode cX2_draw 7 = .ok (.aload_n 0, 1) := by decide +kernel
theorem dX2_draw_8 : decode cX2_draw 8 = .ok (.aload_n 0, 1) := by decide +kernel
theorem dX2_draw_9 : decode cX2_draw 9 = .ok (.getfield 22, 3) := by decide +kernel
theorem dX2_draw_12 : decode cX2_draw 12 = .ok (.ldc 61, 2) := by decide +kernel
theorem dX2_draw_14 : decode cX2_draw 14 = .ok (.imul, 1) := by decide +kernel
theorem dX2_draw_15 : decode cX2_draw 15 = .ok (.sipush 12345, 3) := by decide +kernel
theorem dX2_draw_18 : decode cX2_draw 18 = .ok (.iadd, 1) := by decide +kernel
theorem dX2_draw_19 : decode cX2_draw 19 = .ok (.putfield 22, 3) := by decide +kernel
theorem dX2_draw_22 : decode cX2_draw 22 = .ok (.aload_n 0, 1) := by decide +kernel
theorem dX2_draw_23 : decode cX2_draw 23 = .ok (.getfield 22, 3) := by decide +kernel
theorem dX2_draw_26 : decode cX2_draw 26 = .ok (.bipush 16, 2) := by decide +kernel
theorem dX2_draw_28 : decode cX2_draw 28 = .ok (.iushr, 1) := by decide +kernel
theorem dX2_draw_29 : decode cX2_draw 29 = .ok (.sipush 32767, 3) := by decide +kernel
theorem dX2_draw_32 : decode cX2_draw 32 = .ok (.iand, 1) := by decide +kernel
theorem dX2_draw_33 : decode cX2_draw 33 = .ok (.bipush 100, 2) := by decide +kernel
theorem dX2_draw_35 : decode cX2_draw 35 = .ok (.irem, 1) := by decide +kernel
theorem dX2_draw_36 : decode cX2_draw 36 = .ok (.ireturn, 1) := by decide +kernel
theorem dX2_draw_37 : decode cX2_draw 37 = .ok (.aload_n 0, 1) := by decide +kernel
theorem dX2_draw_38 : decode cX2_draw 38 = .ok (.getfield 15, 3) := by decide +kernel
theorem dX2_draw_41 : decode cX2_draw 41 = .ok (.iconst 0, 1) := by decide +kernel
theorem dX2_draw_42 : decode cX2_draw 42 = .ok (.iaload, 1) := by decide +kernel
theorem dX2_draw_43 : decode cX2_draw 43 = .ok (.istore_n 1, 1) := by decide +kernel
theorem dX2_draw_44 : decode cX2_draw 44 = .ok (.aload_n 0, 1) := by decide +kernel
theorem dX2_draw_45 : decode cX2_draw 45 = .ok (.dup, 1) := by decide +kernel
theorem dX2_draw_46 : decode cX2_draw 46 = .ok (.getfield 18, 3) := by decide +kernel
theorem dX2_draw_49 : decode cX2_draw 49 = .ok (.iconst 1, 1) := by decide +kernel
theorem dX2_draw_50 : decode cX2_draw 50 = .ok (.isub, 1) := by decide +kernel
theorem dX2_draw_51 : decode cX2_draw 51 = .ok (.putfield 18, 3) := by decide +kernel
theorem dX2_draw_54 : decode cX2_draw 54 = .ok (.iconst 0, 1) := by decide +kernel
theorem dX2_draw_55 : decode cX2_draw 55 = .ok (.istore_n 2, 1) := by decide +kernel
theorem dX2_draw_56 : decode cX2_draw 56 = .ok (.iload_n 2, 1) := by decide +kernel
theorem dX2_draw_57 : decode cX2_draw 57 = .ok (.aload_n 0, 1) := by decide +kernel
theorem dX2_draw_58 : decode cX2_draw 58 = .ok (.getfield 18, 3) := by decide +kernel
theorem dX2_draw_61 : decode cX2_draw 61 = .ok (.if_icmp .ge 27, 3) := by decide +kernel
theorem dX2_draw_64 : decode cX2_draw 64 = .ok (.aload_n 0, 1) := by decide +kernel
theorem dX2_draw_65 : decode cX2_draw 65 = .ok (.getfield 15, 3) := by decide +kernel
theorem dX2_draw_68 : decode cX2_draw 68 = .ok (.iload_n 2, 1) := by decide +kernel
theorem dX2_draw_69 : decode cX2_draw 69 = .ok (.aload_n 0, 1) := by decide +kernel
theorem dX2_draw_70 : decode cX2_draw 70 = .ok (.getfield 15, 3) := by decide +kernel
theorem dX2_draw_73 : decode cX2_draw 73 = .ok (.iload_n 2, 1) := by decide +kernel
theorem dX2_draw_74 : decode cX2_draw 74 = .ok (.iconst 1, 1) := by decide +kernel
theorem dX2_draw_75 : decode cX2_draw 75 = .ok (.iadd, 1) := by decide +kernel
theorem dX2_draw_76 : decode cX2_draw 76 = .ok (.invokestatic 62, 3) := by decide +kernel
theorem dX2_draw_79 : decode cX2_draw 79 = .ok (.invokestatic 57, 3) := by decide +kernel
theorem dX2_draw_82 : decode cX2_draw 82 = .ok (.iinc 2 1, 3) := by decide +kernel
theorem dX2_draw_85 : decode cX2_draw 85 = .ok (.goto (-29), 3) := by decide +kernel
theorem dX2_draw_88 : decode cX2_draw 88 = .ok (.iload_n 1, 1) := by decide +kernel
theorem dX2_draw_89 : decode cX2_draw 89 = .ok (.ireturn, 1) := by decide +kernel
theorem dX2_tryStep_0 : decode cX2_tryStep 0 = .ok (.aload_n 0, 1) := by decide +kernel
theorem dX2_tryStep_1 : decode cX2_tryStep 1 = .ok (.invokevirtual 66, 3) := by decide +kernel
theorem dX2_tryStep_4 : decode cX2_tryStep 4 = .ok (.aload_n 1, 1) := by decide +kernel
theorem dX2_tryStep_5 : decode cX2_tryStep 5 = .ok (.getfield 70, 3) := by decide +kernel
theorem dX2_tryStep_8 : decode cX2_tryStep 8 = .ok (.iload_n 2, 1) := by decide +kernel
theorem dX2_tryStep_9 : decode cX2_tryStep 9 = .ok (.invokestatic 62, 3) := by decide +kernel
theorem dX2_tryStep_12 : decode cX2_tryStep 12 = .ok (.if_icmp .lt 23, 3) := by decide +kernel
theorem dX2_tryStep_15 : decode cX2_tryStep 15 = .ok (.aload_n 0, 1) := by decide +kernel
theorem dX2_tryStep_16 : decode cX2_tryStep 16 = .ok (.aload_n 1, 1) := by decide +kernel
theorem dX2_tryStep_17 : decode cX2_tryStep 17 = .ok (.iload_n 2, 1) := by decide +kernel
theorem dX2_tryStep_18 : decode cX2_tryStep 18 = .ok (.invokevirtual 73, 3) := by decide +kernel
theorem dX2_tryStep_21 : decode cX2_tryStep 21 = .ok (.aload_n 1, 1) := by decide +kernel
theorem dX2_tryStep_22 : decode cX2_tryStep 22 = .ok (.getfield 77, 3) := by decide +kernel
theorem dX2_tryStep_25 : decode cX2_tryStep 25 = .ok (.iconst 1, 1) := by decide +kernel
theorem dX2_tryStep_26 : decode cX2_tryStep 26 = .ok (.if_icmp .ne 7, 3) := by decide +kernel
theorem dX2_tryStep_29 : decode cX2_tryStep 29 = .ok (.iconst 2, 1) := by decide +kernel
theorem dX2_tryStep_30 : decode cX2_tryStep 30 = .ok (.goto 4, 3) := by decide +kernel
theorem dX2_tryStep_33 : decode cX2_tryStep 33 = .ok (.iconst 1, 1) := by decide +kernel
theorem dX2_tryStep_34 : decode cX2_tryStep 34 = .ok (.ireturn, 1) := by decide +kernel
theorem dX2_tryStep_35 : decode cX2_tryStep 35 = .ok (.aload_n 0, 1) := by decide +kernel
theorem dX2_tryStep_36 : decode cX2_tryStep 36 = .ok (.aload_n 1, 1) := by decide +kernel
theorem dX2_tryStep_37 : decode cX2_tryStep 37 = .ok (.iload_n 2, 1) := by decide +kernel
theorem dX2_tryStep_38 : decode cX2_tryStep 38 = .ok (.invokevirtual 80, 3) := by decide +kernel
theorem dX2_tryStep_41 : decode cX2_tryStep 41 = .ok (.aload_n 1, 1) := by decide +kernel
theorem dX2_tryStep_42 : decode cX2_tryStep 42 = .ok (.getfield 77, 3) := by decide +kernel
theorem dX2_tryStep_45 : decode cX2_tryStep 45 = .ok (.iconst 2, 1) := by decide +kernel
theorem dX2_tryStep_46 : decode cX2_tryStep 46 = .ok (.if_icmp .ne 7, 3) := by decide +kernel
theorem dX2_tryStep_49 : decode cX2_tryStep 49 = .ok (.iconst 3, 1) := by decide +kernel
theorem dX2_tryStep_50 : decode cX2_tryStep 50 = .ok (.goto 4, 3) := by decide +kernel
theorem dX2_tryStep_53 : decode cX2_tryStep 53 = .ok (.iconst 0, 1) := by decide +kernel
theorem dX2_tryStep_54 : decode cX2_tryStep 54 = .ok (.ireturn, 1) := by decide +kernel
theorem dX2_succeed_0 : decode cX2_succeed 0 = .ok (.aload_n 0, 1) := by decide +kernel
theorem dX2_succeed_1 : decode cX2_succeed 1 = .ok (.aload_n 1, 1) := by decide +kernel
theorem dX2_succeed_2 : decode cX2_succeed 2 = .ok (.getfield 83, 3) := by decide +kernel
theorem dX2_succeed_5 : decode cX2_succeed 5 = .ok (.iload_n 2, 1) := by decide +kernel
theorem dX2_succeed_6 : decode cX2_succeed 6 = .ok (.iconst (-1), 1) := by decide +kernel
theorem dX2_succeed_7 : decode cX2_succeed 7 = .ok (.invokevirtual 86, 3) := by decide +kernel
theorem dX2_succeed_10 : decode cX2_succeed 10 = .ok (.aload_n 0, 1) := by decide +kernel
theorem dX2_succeed_11 : decode cX2_succeed 11 = .ok (.aload_n 1, 1) := by decide +kernel
theorem dX2_succeed_12 : decode cX2_succeed 12 = .ok (.getfield 89, 3) := by decide +kernel
theorem dX2_succeed_15 : decode cX2_succeed 15 = .ok (.iload_n 2, 1) := by decide +kernel
theorem dX2_succeed_16 : decode cX2_succeed 16 = .ok (.iconst 1, 1) := by decide +kernel
theorem dX2_succeed_17 : decode cX2_succeed 17 = .ok (.invokevirtual 86, 3) := by decide +kernel
theorem dX2_succeed_20 : decode cX2_succeed 20 = .ok (.aload_n 1, 1) := by decide +kernel
theorem dX2_succeed_21 : decode cX2_succeed 21 = .ok (.dup, 1) := by decide +kernel
theorem dX2_succeed_22 : decode cX2_succeed 22 = .ok (.getfield 92, 3) := by decide +kernel
theorem dX2_succeed_25 : decode cX2_succeed 25 = .ok (.iconst 1, 1) := by decide +kernel
theorem dX2_succeed_26 : decode cX2_succeed 26 = .ok (.iload_n 2, 1) := by decide +kernel
theorem dX2_succeed_27 : decode cX2_succeed 27 = .ok (.ishl, 1) := by decide +kernel
theorem dX2_succeed_28 : decode cX2_succeed 28 = .ok (.ior, 1) := by decide +kernel
theorem dX2_succeed_29 : decode cX2_succeed 29 = .ok (.putfield 92, 3) := by decide +kernel
theorem dX2_succeed_32 : decode cX2_succeed 32 = .ok (.aload_n 1, 1) := by decide +kernel
theorem dX2_succeed_33 : decode cX2_succeed 33 = .ok (.aload_n 1, 1) := by decide +kernel
theorem dX2_succeed_34 : decode cX2_succeed 34 = .ok (.getfield 92, 3) := by decide +kernel
theorem dX2_succeed_37 : decode cX2_succeed 37 = .ok (.invokevirtual 95, 3) := by decide +kernel
theorem dX2_succeed_40 : decode cX2_succeed 40 = .ok (.ifCond .eq 35, 3) := by decide +kernel
theorem dX2_succeed_43 : decode cX2_succeed 43 = .ok (.aload_n 1, 1) := by decide +kernel
theorem dX2_succeed_44 : decode cX2_succeed 44 = .ok (.iconst 1, 1) := by decide +kernel
theorem dX2_succeed_45 : decode cX2_succeed 45 = .ok (.putfield 77, 3) := by decide +kernel
theorem dX2_succeed_48 : decode cX2_succeed 48 = .ok (.aload_n 0, 1) := by decide +kernel
theorem dX2_succeed_49 : decode cX2_succeed 49 = .ok (.getfield 9, 3) := by decide +kernel
theorem dX2_succeed_52 : decode cX2_succeed 52 = .ok (.aload_n 1, 1) := by decide +kernel
theorem dX2_succeed_53 : decode cX2_succeed 53 = .ok (.getfield 99, 3) := by decide +kernel
theorem dX2_succeed_56 : decode cX2_succeed 56 = .ok (.aload_n 0, 1) := by decide +kernel
theorem dX2_succeed_57 : decode cX2_succeed 57 = .ok (.getfield 9, 3) := by decide +kernel
theorem dX2_succeed_60 : decode cX2_succeed 60 = .ok (.aload_n 1, 1) := by decide +kernel
theorem dX2_succeed_61 : decode cX2_succeed 61 = .ok (.getfield 99, 3) := by decide +kernel
theorem dX2_succeed_64 : decode cX2_succeed 64 = .ok (.invokestatic 62, 3) := by decide +kernel
theorem dX2_succeed_67 : decode cX2_succeed 67 = .ok (.aload_n 1, 1) := by decide +kernel
theorem dX2_succeed_68 : decode cX2_succeed 68 = .ok (.getfield 102, 3) := by decide +kernel
theorem dX2_succeed_71 : decode cX2_succeed 71 = .ok (.iadd, 1) := by decide +kernel
theorem dX2_succeed_72 : decode cX2_succeed 72 = .ok (.invokestatic 57, 3) := by decide +kernel
theorem dX2_succeed_75 : decode cX2_succeed 75 = .ok (.return_, 1) := by decide +kernel
theorem dX2_fail_0 : decode cX2_fail 0 = .ok (.aload_n 1, 1) := by decide +kernel
theorem dX2_fail_1 : decode cX2_fail 1 = .ok (.getfield 105, 3) := by decide +kernel
theorem dX2_fail_4 : decode cX2_fail 4 = .ok (.iload_n 2, 1) := by decide +kernel
theorem dX2_fail_5 : decode cX2_fail 5 = .ok (.aload_n 1, 1) := by decide +kernel
theorem dX2_fail_6 : decode cX2_fail 6 = .ok (.getfield 105, 3) := by decide +kernel
theorem dX2_fail_9 : decode cX2_fail 9 = .ok (.iload_n 2, 1) := by decide +kernel
theorem dX2_fail_10 : decode cX2_fail 10 = .ok (.invokestatic 62, 3) := by decide +kernel
theorem dX2_fail_13 : decode cX2_fail 13 = .ok (.iconst 1, 1) := by decide +kernel
theorem dX2_fail_14 : decode cX2_fail 14 = .ok (.iadd, 1) := by decide +kernel
theorem dX2_fail_15 : decode cX2_fail 15 = .ok (.invokestatic 57, 3) := by decide +kernel
theorem dX2_fail_18 : decode cX2_fail 18 = .ok (.aload_n 1, 1) := by decide +kernel
theorem dX2_fail_19 : decode cX2_fail 19 = .ok (.getfield 108, 3) := by decide +kernel
theorem dX2_fail_22 : decode cX2_fail 22 = .ok (.iload_n 2, 1) := by decide +kernel
theorem dX2_fail_23 : decode cX2_fail 23 = .ok (.invokestatic 62, 3) := by decide +kernel
theorem dX2_fail_26 : decode cX2_fail 26 = .ok (.iconst 1, 1) := by decide +kernel
theorem dX2_fail_27 : decode cX2_fail 27 = .ok (.if_icmp .ne 13, 3) := by decide +kernel
theorem dX2_fail_30 : decode cX2_fail 30 = .ok (.aload_n 0, 1) := by decide +kernel
theorem dX2_fail_31 : decode cX2_fail 31 = .ok (.aload_n 1, 1) := by decide +kernel
theorem dX2_fail_32 : decode cX2_fail 32 = .ok (.getfield 83, 3) := by decide +kernel
theorem dX2_fail_35 : decode cX2_fail 35 = .ok (.iload_n 2, 1) := by decide +kernel
theorem dX2_fail_36 : decode cX2_fail 36 = .ok (.iconst (-1), 1) := by decide +kernel
theorem dX2_fail_37 : decode cX2_fail 37 = .ok (.invokevirtual 86, 3) := by decide +kernel
theorem dX2_fail_40 : decode cX2_fail 40 = .ok (.aload_n 1, 1) := by decide +kernel
theorem dX2_fail_41 : decode cX2_fail 41 = .ok (.invokevirtual 111, 3) := by decide +kernel
theorem dX2_fail_44 : decode cX2_fail 44 = .ok (.ifCond .ne 8, 3) := by decide +kernel
theorem dX2_fail_47 : decode cX2_fail 47 = .ok (.aload_n 1, 1) := by decide +kernel
theorem dX2_fail_48 : decode cX2_fail 48 = .ok (.iconst 2, 1) := by decide +kernel
theorem dX2_fail_49 : decode cX2_fail 49 = .ok (.putfield 77, 3) := by decide +kernel
theorem dX2_fail_52 : decode cX2_fail 52 = .ok (.return_, 1) := by decide +kernel
theorem dX2_change_0 : decode cX2_change 0 = .ok (.iconst 0, 1) := by decide +kernel
theorem dX2_change_1 : decode cX2_change 1 = .ok (.istore 4, 2) := by decide +kernel
theorem dX2_change_3 : decode cX2_change 3 = .ok (.iload 4, 2) := by decide +kernel
theorem dX2_change_5 : decode cX2_change 5 = .ok (.bipush 8, 2) := by decide +kernel
theorem dX2_change_7 : decode cX2_change 7 = .ok (.if_icmp .ge 32, 3) := by decide +kernel
theorem dX2_change_10 : decode cX2_change 10 = .ok (.aload_n 0, 1) := by decide +kernel
theorem dX2_change_11 : decode cX2_change 11 = .ok (.getfield 9, 3) := by decide +kernel
theorem dX2_change_14 : decode cX2_change 14 = .ok (.iload 4, 2) := by decide +kernel
theorem dX2_change_16 : decode cX2_change 16 = .ok (.dup2, 1) := by decide +kernel
theorem dX2_change_17 : decode cX2_change 17 = .ok (.iaload, 1) := by decide +kernel
theorem dX2_change_18 : decode cX2_change 18 = .ok (.iload_n 3, 1) := by decide +kernel
theorem dX2_change_19 : decode cX2_change 19 = .ok (.aload_n 1, 1) := by decide +kernel
theorem dX2_change_20 : decode cX2_change 20 = .ok (.iload_n 2, 1) := by decide +kernel
theorem dX2_change_21 : decode cX2_change 21 = .ok (.bipush 8, 2) := by decide +kernel
theorem dX2_change_23 : decode cX2_change 23 = .ok (.imul, 1) := by decide +kernel
theorem dX2_change_24 : decode cX2_change 24 = .ok (.iload 4, 2) := by decide +kernel
theorem dX2_change_26 : decode cX2_change 26 = .ok (.iadd, 1) := by decide +kernel
theorem dX2_change_27 : decode cX2_change 27 = .ok (.invokestatic 62, 3) := by decide +kernel
theorem dX2_change_30 : decode cX2_change 30 = .ok (.imul, 1) := by decide +kernel
theorem dX2_change_31 : decode cX2_change 31 = .ok (.iadd, 1) := by decide +kernel
theorem dX2_change_32 : decode cX2_change 32 = .ok (.iastore, 1) := by decide +kernel
theorem dX2_change_33 : decode cX2_change 33 = .ok (.iinc 4 1, 3) := by decide +kernel
theorem dX2_change_36 : decode cX2_change 36 = .ok (.goto (-33), 3) := by decide +kernel
theorem dX2_change_39 : decode cX2_change 39 = .ok (.return_, 1) := by decide +kernel
theorem dX3_init_0 : decode cX3_init 0 = .ok (.aload_n 0, 1) := by decide +kernel
theorem dX3_init_1 : decode cX3_init 1 = .ok (.invokespecial 3, 3) := by decide +kernel
theorem dX3_init_4 : decode cX3_init 4 = .ok (.aload_n 0, 1) := by decide +kernel
theorem dX3_init_5 : decode cX3_init 5 = .ok (.iconst 0, 1) := by decide +kernel
theorem dX3_init_6 : decode cX3_init 6 = .ok (.putfield 9, 3) := by decide +kernel
theorem dX3_init_9 : decode cX3_init 9 = .ok (.aload_n 0, 1) := by decide +kernel
theorem dX3_init_10 : decode cX3_init 10 = .ok (.iconst 0, 1) := by decide +kernel
theorem dX3_init_11 : decode cX3_init 11 = .ok (.putfield 15, 3) := by decide +kernel
theorem dX3_init_14 : decode cX3_init 14 = .ok (.aload_n 0, 1) := by decide +kernel
theorem dX3_init_15 : decode cX3_init 15 = .ok (.iconst 0, 1) := by decide +kernel
theorem dX3_init_16 : decode cX3_init 16 = .ok (.putfield 18, 3) := by decide +kernel
theorem dX3_init_19 : decode cX3_init 19 = .ok (.aload_n 0, 1) := by decide +kernel
theorem dX3_init_20 : decode cX3_init 20 = .ok (.iconst 0, 1) := by decide +kernel
theorem dX3_init_21 : decode cX3_init 21 = .ok (.putfield 21, 3) := by decide +kernel
theorem dX3_init_24 : decode cX3_init 24 = .ok (.aload_n 0, 1) := by decide +kernel
theorem dX3_init_25 : decode cX3_init 25 = .ok (.iconst 0, 1) := by decide +kernel
theorem dX3_init_26 : decode cX3_init 26 = .ok (.putfield 24, 3) := by decide +kernel
theorem dX3_init_29 : decode cX3_init 29 = .ok (.aload_n 0, 1) := by decide +kernel
theorem dX3_init_30 : decode cX3_init 30 = .ok (.lconst 0, 1) := by decide +kernel
theorem dX3_init_31 : decode cX3_init 31 = .ok (.putfield 27, 3) := by decide +kernel
theorem dX3_init_34 : decode cX3_init 34 = .ok (.aload_n 0, 1) := by decide +kernel
theorem dX3_init_35 : decode cX3_init 35 = .ok (.bipush 6, 2) := by decide +kernel
theorem dX3_init_37 : decode cX3_init 37 = .ok (.newarray .int, 2) := by decide +kernel
theorem dX3_init_39 : decode cX3_init 39 = .ok (.putfield 31, 3) := by decide +kernel
theorem dX3_init_42 : decode cX3_init 42 = .ok (.aload_n 0, 1) := by decide +kernel
theorem dX3_init_43 : decode cX3_init 43 = .ok (.bipush 6, 2) := by decide +kernel
theorem dX3_init_45 : decode cX3_init 45 = .ok (.newarray .int, 2) := by decide +kernel
theorem dX3_init_47 : decode cX3_init 47 = .ok (.putfield 35, 3) := by decide +kernel
theorem dX3_init_50 : decode cX3_init 50 = .ok (.aload_n 0, 1) := by decide +kernel
theorem dX3_init_51 : decode cX3_init 51 = .ok (.bipush 6, 2) := by decide +kernel
theorem dX3_init_53 : decode cX3_init 53 = .ok (.newarray .int, 2) := by decide +kernel
theorem dX3_init_55 : decode cX3_init 55 = .ok (.putfield 38, 3) := by decide +kernel
theorem dX3_init_58 : decode cX3_init 58 = .ok (.aload_n 0, 1) := by decide +kernel
theorem dX3_init_59 : decode cX3_init 59 = .ok (.bipush 6, 2) := by decide +kernel
theorem dX3_init_61 : decode cX3_init 61 = .ok (.newarray .int, 2) := by decide +kernel
theorem dX3_init_63 : decode cX3_init 63 = .ok (.putfield 41, 3) := by decide +kernel
theorem dX3_init_66 : decode cX3_init 66 = .ok (.aload_n 0, 1) := by decide +kernel
theorem dX3_init_67 : decode cX3_init 67 = .ok (.bipush 6, 2) := by decide +kernel
theorem dX3_init_69 : decode cX3_init 69 = .ok (.newarray .int, 2) := by decide +kernel
theorem dX3_init_71 : decode cX3_init 71 = .ok (.putfield 44, 3) := by decide +kernel
theorem dX3_init_74 : decode cX3_init 74 = .ok (.aload_n 0, 1) := by decide +kernel
theorem dX3_init_75 : decode cX3_init 75 = .ok (.bipush 48, 2) := by decide +kernel
theorem dX3_init_77 : decode cX3_init 77 = .ok (.newarray .int, 2) := by decide +kernel
theorem dX3_init_79 : decode cX3_init 79 = .ok (.putfield 47, 3) := by decide +kernel
theorem dX3_init_82 : decode cX3_init 82 = .ok (.aload_n 0, 1) := by decide +kernel
theorem dX3_init_83 : decode cX3_init 83 = .ok (.bipush 48, 2) := by decide +kernel
theorem dX3_init_85 : decode cX3_init 85 = .ok (.newarray .int, 2) := by decide +kernel
theorem dX3_init_87 : decode cX3_init 87 = .ok (.putfield 50, 3) := by decide +kernel
theorem dX3_init_90 : decode cX3_init 90 = .ok (.aload_n 0, 1) := by decide +kernel
theorem dX3_init_91 : decode cX3_init 91 = .ok (.bipush 48, 2) := by decide +kernel
theorem dX3_init_93 : decode cX3_init 93 = .ok (.newarray .int, 2) := by decide +kernel
theorem dX3_init_95 : decode cX3_init 95 = .ok (.putfield 53, 3) := by decide +kernel
theorem dX3_init_98 : decode cX3_init 98 = .ok (.return_, 1) := by decide +kernel
theorem dX3_clear_0 : decode cX3_clear 0 = .ok (.aload_n 0, 1) := by decide +kernel
theorem dX3_clear_1 : decode cX3_clear 1 = .ok (.iconst 0, 1) := by decide +kernel
theorem dX3_clear_2 : decode cX3_clear 2 = .ok (.putfield 9, 3) := by decide +kernel
theorem dX3_clear_5 : decode cX3_clear 5 = .ok (.aload_n 0, 1) := by decide +kernel
theorem dX3_clear_6 : decode cX3_clear 6 = .ok (.invokevirtual 56, 3) := by decide +kernel
theorem dX3_clear_9 : decode cX3_clear 9 = .ok (.aload_n 0, 1) := by decide +kernel
theorem dX3_clear_10 : decode cX3_clear 10 = .ok (.getfield 41, 3) := by decide +kernel
theorem dX3_clear_13 : decode cX3_clear 13 = .ok (.iconst 0, 1) := by decide +kernel
theorem dX3_clear_14 : decode cX3_clear 14 = .ok (.invokestatic 59, 3) := by decide +kernel
theorem dX3_clear_17 : decode cX3_clear 17 = .ok (.aload_n 0, 1) := by decide +kernel
theorem dX3_clear_18 : decode cX3_clear 18 = .ok (.getfield 44, 3) := by decide +kernel
theorem dX3_clear_21 : decode cX3_clear 21 = .ok (.iconst 0, 1) := by decide +kernel
theorem dX3_clear_22 : decode cX3_clear 22 = .ok (.invokestatic 59, 3) := by decide +kernel
theorem dX3_clear_25 : decode cX3_clear 25 = .ok (.aload_n 0, 1) := by decide +kernel
theorem dX3_clear_26 : decode cX3_clear 26 = .ok (.getfield 47, 3) := by decide +kernel
theorem dX3_clear_29 : decode cX3_clear 29 = .ok (.iconst 0, 1) := by decide +kernel
theorem dX3_clear_30 : decode cX3_clear 30 = .ok (.invokestatic 59, 3) := by decide +kernel
theorem dX3_clear_33 : decode cX3_clear 33 = .ok (.aload_n 0, 1) := by decide +kernel
theorem dX3_clear_34 : decode cX3_clear 34 = .ok (.getfield 50, 3) := by decide +kernel
theorem dX3_clear_37 : decode cX3_clear 37 = .ok (.iconst 0, 1) := by decide +kernel
theorem dX3_clear_38 : decode cX3_clear 38 = .ok (.invokestatic 59, 3) := by decide +kernel
theorem dX3_clear_41 : decode cX3_clear 41 = .ok (.aload_n 0, 1) := by decide +kernel
theorem dX3_clear_42 : decode cX3_clear 42 = .ok (.getfield 53, 3) := by decide +kernel
theorem dX3_clear_45 : decode cX3_clear 45 = .ok (.iconst 0, 1) := by decide +kernel
theorem dX3_clear_46 : decode cX3_clear 46 = .ok (.invokestatic 59, 3) := by decide +kernel
theorem dX3_clear_49 : decode cX3_clear 49 = .ok (.return_, 1) := by decide +kernel
theorem dX3_beginAnew_0 : decode cX3_beginAnew 0 = .ok (.aload_n 0, 1) := by decide +kernel
theorem dX3_beginAnew_1 : decode cX3_beginAnew 1 = .ok (.iconst 0, 1) := by decide +kernel
theorem dX3_beginAnew_2 : decode cX3_beginAnew 2 = .ok (.putfield 15, 3) := by decide +kernel
theorem dX3_beginAnew_5 : decode cX3_beginAnew 5 = .ok (.aload_n 0, 1) := by decide +kernel
theorem dX3_beginAnew_6 : decode cX3_beginAnew 6 = .ok (.iconst 0, 1) := by decide +kernel
theorem dX3_beginAnew_7 : decode cX3_beginAnew 7 = .ok (.putfield 18, 3) := by decide +kernel
theorem dX3_beginAnew_10 : decode cX3_beginAnew 10 = .ok (.aload_n 0, 1) := by decide +kernel
theorem dX3_beginAnew_11 : decode cX3_beginAnew 11 = .ok (.getfield 38, 3) := by decide +kernel
theorem dX3_beginAnew_14 : decode cX3_beginAnew 14 = .ok (.iconst 0, 1) := by decide +kernel
theorem dX3_beginAnew_15 : decode cX3_beginAnew 15 = .ok (.invokestatic 59, 3) := by decide +kernel
theorem dX3_beginAnew_18 : decode cX3_beginAnew 18 = .ok (.return_, 1) := by decide +kernel
theorem dX3_copyFrom_0 : decode cX3_copyFrom 0 = .ok (.aload_n 0, 1) := by decide +kernel
theorem dX3_copyFrom_1 : decode cX3_copyFrom 1 = .ok (.aload_n 1, 1) := by decide +kernel
theorem dX3_copyFrom_2 : decode cX3_copyFrom 2 = .ok (.getfield 9, 3) := by decide +kernel
theorem dX3_copyFrom_5 : decode cX3_copyFrom 5 = .ok (.putfield 9, 3) := by decide +kernel
theorem dX3_copyFrom_8 : decode cX3_copyFrom 8 = .ok (.aload_n 0, 1) := by decide +kernel
theorem dX3_copyFrom_9 : decode cX3_copyFrom 9 = .ok (.aload_n 1, 1) := by decide +kernel
theorem dX3_copyFrom_10 : decode cX3_copyFrom 10 = .ok (.getfield 15, 3) := by decide +kernel
theorem dX3_copyFrom_13 : decode cX3_copyFrom 13 = .ok (.putfield 15, 3) := by decide +kernel
theorem dX3_copyFrom_16 : decode cX3_copyFrom 16 = .ok (.aload_n 0, 1) := by decide +kernel
theorem dX3_copyFrom_17 : decode cX3_copyFrom 17 = .ok (.aload_n 1, 1) := by decide +kernel
theorem dX3_copyFrom_18 : decode cX3_copyFrom 18 = .ok (.getfield 18, 3) := by decide +kernel
theorem dX3_copyFrom_21 : decode cX3_copyFrom 21 = .ok (.putfield 18, 3) := by decide +kernel
theorem dX3_copyFrom_24 : decode cX3_copyFrom 24 = .ok (.aload_n 0, 1) := by decide +kernel
theorem dX3_copyFrom_25 : decode cX3_copyFrom 25 = .ok (.aload_n 1, 1) := by decide +kernel
theorem dX3_copyFrom_26 : decode cX3_copyFrom 26 = .ok (.getfield 21, 3) := by decide +kernel
theorem dX3_copyFrom_29 : decode cX3_copyFrom 29 = .ok (.putfield 21, 3) := by decide +kernel
theorem dX3_copyFrom_32 : decode cX3_copyFrom 32 = .ok (.aload_n 0, 1) := by decide +kernel
theorem dX3_copyFrom_33 : decode cX3_copyFrom 33 = .ok (.aload_n 1, 1) := by decide +kernel
theorem dX3_copyFrom_34 : decode cX3_copyFrom 34 = .ok (.getfield 24, 3) := by decide +kernel
theorem dX3_copyFrom_37 : decode cX3_copyFrom 37 = .ok (.putfield 24, 3) := by decide +kernel
theorem dX3_copyFrom_40 : decode cX3_copyFrom 40 = .ok (.aload_n 0, 1) := by decide +kernel
theorem dX3_copyFrom_41 : decode cX3_copyFrom 41 = .ok (.aload_n 1, 1) := by decide +kernel
theorem dX3_copyFrom_42 : decode cX3_copyFrom 42 = .ok (.getfield 27, 3) := by decide +kernel
theorem dX3_copyFrom_45 : decode cX3_copyFrom 45 = .ok (.putfield 27, 3) := by decide +kernel
theorem dX3_copyFrom_48 : decode cX3_copyFrom 48 = .ok (.aload_n 1, 1) := by decide +kernel
theorem dX3_copyFrom_49 : decode cX3_copyFrom 49 = .ok (.getfield 31, 3) := by decide +kernel
theorem dX3_copyFrom_52 : decode cX3_copyFrom 52 = .ok (.iconst 0, 1) := by decide +kernel
theorem dX3_copyFrom_53 : decode cX3_copyFrom 53 = .ok (.aload_n 0, 1) := by decide +kernel
theorem dX3_copyFrom_54 : decode cX3_copyFrom 54 = .ok (.getfield 31, 3) := by decide +kernel
theorem dX3_copyFrom_57 : decode cX3_copyFrom 57 = .ok (.iconst 0, 1) := by decide +kernel
theorem dX3_copyFrom_58 : decode cX3_copyFrom 58 = .ok (.bipush 6, 2) := by decide +kernel
theorem dX3_copyFrom_60 : decode cX3_copyFrom 60 = .ok (.invokestatic 65, 3) := by decide +kernel
theorem dX3_copyFrom_63 : decode cX3_copyFrom 63 = .ok (.aload_n 1, 1) := by decide +kernel
theorem dX3_copyFrom_64 : decode cX3_copyFrom 64 = .ok (.getfield 35, 3) := by decide +kernel
theorem dX3_copyFrom_67 : decode cX3_copyFrom 67 = .ok (.iconst 0, 1) := by decide +kernel
theorem dX3_copyFrom_68 : decode cX3_copyFrom 68 = .ok (.aload_n 0, 1) := by decide +kernel
theorem dX3_copyFrom_69 : decode cX3_copyFrom 69 = .ok (.getfield 35, 3) := by decide +kernel
theorem dX3_copyFrom_72 : decode cX3_copyFrom 72 = .ok (.iconst 0, 1) := by decide +kernel
theorem dX3_copyFrom_73 : decode cX3_copyFrom 73 = .ok (.bipush 6, 2) := by decide +kernel
theorem dX3_copyFrom_75 : decode cX3_copyFrom 75 = .ok (.invokestatic 65, 3) := by decide +kernel
theorem dX3_copyFrom_78 : decode cX3_copyFrom 78 = .ok (.aload_n 1, 1) := by decide +kernel
theorem dX3_copyFrom_79 : decode cX3_copyFrom 79 = .ok (.getfield 38, 3) := by decide +kernel
theorem dX3_copyFrom_82 : decode cX3_copyFrom 82 = .ok (.iconst 0, 1) := by decide +kernel
theorem dX3_copyFrom_83 : decode cX3_copyFrom 83 = .ok (.aload_n 0, 1) := by decide +kernel
theorem dX3_copyFrom_84 : decode cX3_copyFrom 84 = .ok (.getfield 38, 3) := by decide +kernel
theorem dX3_copyFrom_87 : decode cX3_copyFrom 87 = .ok (.iconst 0, 1) := by decide +kernel
theorem dX3_copyFrom_88 : decode cX3_copyFrom 88 = .ok (.bipush 6, 2) := by decide +kernel
theorem dX3_copyFrom_90 : decode cX3_copyFrom 90 = .ok (.invokestatic 65, 3) := by decide +kernel
theorem dX3_copyFrom_93 : decode cX3_copyFrom 93 = .ok (.aload_n 1, 1) := by decide +kernel
theorem dX3_copyFrom_94 : decode cX3_copyFrom 94 = .ok (.getfield 41, 3) := by decide +kernel
theorem dX3_copyFrom_97 : decode cX3_copyFrom 97 = .ok (.iconst 0, 1) := by decide +kernel
theorem dX3_copyFrom_98 : decode cX3_copyFrom 98 = .ok (.aload_n 0, 1) := by decide +kernel
theorem dX3_copyFrom_99 : decode cX3_copyFrom 99 = .ok (.getfield 41, 3) := by decide +kernel
theorem dX3_copyFrom_102 : decode cX3_copyFrom 102 = .ok (.iconst 0, 1) := by decide +kernel
theorem dX3_copyFrom_103 : decode cX3_copyFrom 103 = .ok (.bipush 6, 2) := by decide +kernel
theorem dX3_copyFrom_105 : decode cX3_copyFrom 105 = .ok (.invokestatic 65, 3) := by decide +kernel
theorem dX3_copyFrom_108 : decode cX3_copyFrom 108 = .ok (.aload_n 1, 1) := by decide +kernel
theorem dX3_copyFrom_109 : decode cX3_copyFrom 109 = .ok (.getfield 44, 3) := by decide +kernel
theorem dX3_copyFrom_112 : decode cX3_copyFrom 112 = .ok (.iconst 0, 1) := by decide +kernel
theorem dX3_copyFrom_113 : decode cX3_copyFrom 113 = .ok (.aload_n 0, 1) := by decide +kernel
theorem dX3_copyFrom_114 : decode cX3_copyFrom 114 = .ok (.getfield 44, 3) := by decide +kernel
theorem dX3_copyFrom_117 : decode cX3_copyFrom 117 = .ok (.iconst 0, 1) := by decide +kernel
theorem dX3_copyFrom_118 : decode cX3_copyFrom 118 = .ok (.bipush 6, 2) := by decide +kernel
theorem dX3_copyFrom_120 : decode cX3_copyFrom 120 = .ok (.invokestatic 65, 3) := by decide +kernel
theorem dX3_copyFrom_123 : decode cX3_copyFrom 123 = .ok (.aload_n 1, 1) := by decide +kernel
theorem dX3_copyFrom_124 : decode cX3_copyFrom 124 = .ok (.getfield 47, 3) := by decide +kernel
theorem dX3_copyFrom_127 : decode cX3_copyFrom 127 = .ok (.iconst 0, 1) := by decide +kernel
theorem dX3_copyFrom_128 : decode cX3_copyFrom 128 = .ok (.aload_n 0, 1) := by decide +kernel
theorem dX3_copyFrom_129 : decode cX3_copyFrom 129 = .ok (.getfield 47, 3) := by decide +kernel
theorem dX3_copyFrom_132 : decode cX3_copyFrom 132 = .ok (.iconst 0, 1) := by decide +kernel
theorem dX3_copyFrom_133 : decode cX3_copyFrom 133 = .ok (.bipush 48, 2) := by decide +kernel
theorem dX3_copyFrom_135 : decode cX3_copyFrom 135 = .ok (.invokestatic 65, 3) := by decide +kernel
theorem dX3_copyFrom_138 : decode cX3_copyFrom 138 = .ok (.aload_n 1, 1) := by decide +kernel
theorem dX3_copyFrom_139 : decode cX3_copyFrom 139 = .ok (.getfield 50, 3) := by decide +kernel
theorem dX3_copyFrom_142 : decode cX3_copyFrom 142 = .ok (.iconst 0, 1) := by decide +kernel
theorem dX3_copyFrom_143 : decode cX3_copyFrom 143 = .ok (.aload_n 0, 1) := by decide +kernel
theorem dX3_copyFrom_144 : decode cX3_copyFrom 144 = .ok (.getfield 50, 3) := by decide +kernel
theorem dX3_copyFrom_147 : decode cX3_copyFrom 147 = .ok (.iconst 0, 1) := by decide +kernel
theorem dX3_copyFrom_148 : decode cX3_copyFrom 148 = .ok (.bipush 48, 2) := by decide +kernel
theorem dX3_copyFrom_150 : decode cX3_copyFrom 150 = .ok (.invokestatic 65, 3) := by decide +kernel
theorem dX3_copyFrom_153 : decode cX3_copyFrom 153 = .ok (.aload_n 1, 1) := by decide +kernel
theorem dX3_copyFrom_154 : decode cX3_copyFrom 154 = .ok (.getfield 53, 3) := by decide +kernel
theorem dX3_copyFrom_157 : decode cX3_copyFrom 157 = .ok (.iconst 0, 1) := by decide +kernel
theorem dX3_copyFrom_158 : decode cX3_copyFrom 158 = .ok (.aload_n 0, 1) := by decide +kernel
theorem dX3_copyFrom_159 : decode cX3_copyFrom 159 = .ok (.getfield 53, 3) := by decide +kernel
theorem dX3_copyFrom_162 : decode cX3_copyFrom 162 = .ok (.iconst 0, 1) := by decide +kernel
theorem dX3_copyFrom_163 : decode cX3_copyFrom 163 = .ok (.bipush 48, 2) := by decide +kernel
theorem dX3_copyFrom_165 : decode cX3_copyFrom 165 = .ok (.invokestatic 65, 3) := by decide +kernel
theorem dX3_copyFrom_168 : decode cX3_copyFrom 168 = .ok (.return_, 1) := by decide +kernel
theorem dX3_goalHolds_0 : decode cX3_goalHolds 0 = .ok (.aload_n 0, 1) := by decide +kernel
theorem dX3_goalHolds_1 : decode cX3_goalHolds 1 = .ok (.getfield 27, 3) := by decide +kernel
theorem dX3_goalHolds_4 : decode cX3_goalHolds 4 = .ok (.iload_n 1, 1) := by decide +kernel
theorem dX3_goalHolds_5 : decode cX3_goalHolds 5 = .ok (.lushr, 1) := by decide +kernel
theorem dX3_goalHolds_6 : decode cX3_goalHolds 6 = .ok (.lconst 1, 1) := by decide +kernel
theorem dX3_goalHolds_7 : decode cX3_goalHolds 7 = .ok (.land, 1) := by decide +kernel
theorem dX3_goalHolds_8 : decode cX3_goalHolds 8 = .ok (.lconst 0, 1) := by decide +kernel
theorem dX3_goalHolds_9 : decode cX3_goalHolds 9 = .ok (.lcmp, 1) := by decide +kernel
theorem dX3_goalHolds_10 : decode cX3_goalHolds 10 = .ok (.ifCond .eq 7, 3) := by decide +kernel
theorem dX3_goalHolds_13 : decode cX3_goalHolds 13 = .ok (.iconst 1, 1) := by decide +kernel
theorem dX3_goalHolds_14 : decode cX3_goalHolds 14 = .ok (.goto 4, 3) := by decide +kernel
theorem dX3_goalHolds_17 : decode cX3_goalHolds 17 = .ok (.iconst 0, 1) := by decide +kernel
theorem dX3_goalHolds_18 : decode cX3_goalHolds 18 = .ok (.ireturn, 1) := by decide +kernel
theorem dX3_isDone_0 : decode cX3_isDone 0 = .ok (.aload_n 0, 1) := by decide +kernel
theorem dX3_isDone_1 : decode cX3_isDone 1 = .ok (.getfield 18, 3) := by decide +kernel
theorem dX3_isDone_4 : decode cX3_isDone 4 = .ok (.iload_n 1, 1) := by decide +kernel
theorem dX3_isDone_5 : decode cX3_isDone 5 = .ok (.iushr, 1) := by decide +kernel
theorem dX3_isDone_6 : decode cX3_isDone 6 = .ok (.iconst 1, 1) := by decide +kernel
theorem dX3_isDone_7 : decode cX3_isDone 7 = .ok (.iand, 1) := by decide +kernel
theorem dX3_isDone_8 : decode cX3_isDone 8 = .ok (.ifCond .eq 7, 3) := by decide +kernel
theorem dX3_isDone_11 : decode cX3_isDone 11 = .ok (.iconst 1, 1) := by decide +kernel
theorem dX3_isDone_12 : decode cX3_isDone 12 = .ok (.goto 4, 3) := by decide +kernel
theorem dX3_isDone_15 : decode cX3_isDone 15 = .ok (.iconst 0, 1) := by decide +kernel
theorem dX3_isDone_16 : decode cX3_isDone 16 = .ok (.ireturn, 1) := by decide +kernel
theorem dX3_isBroken_0 : decode cX3_isBroken 0 = .ok (.aload_n 0, 1) := by decide +kernel
theorem dX3_isBroken_1 : decode cX3_isBroken 1 = .ok (.getfield 38, 3) := by decide +kernel
theorem dX3_isBroken_4 : decode cX3_isBroken 4 = .ok (.iload_n 1, 1) := by decide +kernel
theorem dX3_isBroken_5 : decode cX3_isBroken 5 = .ok (.invokestatic 71, 3) := by decide +kernel
theorem dX3_isBroken_8 : decode cX3_isBroken 8 = .ok (.aload_n 0, 1) := by decide +kernel
theorem dX3_isBroken_9 : decode cX3_isBroken 9 = .ok (.getfield 35, 3) := by decide +kernel
theorem dX3_isBroken_12 : decode cX3_isBroken 12 = .ok (.iload_n 1, 1) := by decide +kernel
theorem dX3_isBroken_13 : decode cX3_isBroken 13 = .ok (.invokestatic 71, 3) := by decide +kernel
theorem dX3_isBroken_16 : decode cX3_isBroken 16 = .ok (.if_icmp .lt 7, 3) := by decide +kernel
theorem dX3_isBroken_19 : decode cX3_isBroken 19 = .ok (.iconst 1, 1) := by decide +kernel
theorem dX3_isBroken_20 : decode cX3_isBroken 20 = .ok (.goto 4, 3) := by decide +kernel
theorem dX3_isBroken_23 : decode cX3_isBroken 23 = .ok (.iconst 0, 1) := by decide +kernel
theorem dX3_isBroken_24 : decode cX3_isBroken 24 = .ok (.ireturn, 1) := by decide +kernel
theorem dX3_brokenSteps_0 : decode cX3_brokenSteps 0 = .ok (.iconst 0, 1) := by decide +kernel
theorem dX3_brokenSteps_1 : decode cX3_brokenSteps 1 = .ok (.istore_n 1, 1) := by decide +kernel
theorem dX3_brokenSteps_2 : decode cX3_brokenSteps 2 = .ok (.iconst 0, 1) := by decide +kernel
theorem dX3_brokenSteps_3 : decode cX3_brokenSteps 3 = .ok (.istore_n 2, 1) := by decide +kernel
theorem dX3_brokenSteps_4 : decode cX3_brokenSteps 4 = .ok (.iload_n 2, 1) := by decide +kernel
theorem dX3_brokenSteps_5 : decode cX3_brokenSteps 5 = .ok (.aload_n 0, 1) := by decide +kernel
theorem dX3_brokenSteps_6 : decode cX3_brokenSteps 6 = .ok (.getfield 9, 3) := by decide +kernel
theorem dX3_brokenSteps_9 : decode cX3_brokenSteps 9 = .ok (.if_icmp .ge 23, 3) := by decide +kernel
theorem dX3_brokenSteps_12 : decode cX3_brokenSteps 12 = .ok (.aload_n 0, 1) := by decide +kernel
theorem dX3_brokenSteps_13 : decode cX3_brokenSteps 13 = .ok (.iload_n 2, 1) := by decide +kernel
theorem dX3_brokenSteps_14 : decode cX3_brokenSteps 14 = .ok (.invokevirtual 75, 3) := by decide +kernel
theorem dX3_brokenSteps_17 : decode cX3_brokenSteps 17 = .ok (.ifCond .eq 9, 3) := by decide +kernel
theorem dX3_brokenSteps_20 : decode cX3_brokenSteps 20 = .ok (.iload_n 1, 1) := by decide +kernel
theorem dX3_brokenSteps_21 : decode cX3_brokenSteps 21 = .ok (.iconst 1, 1) := by decide +kernel
theorem dX3_brokenSteps_22 : decode cX3_brokenSteps 22 = .ok (.iload_n 2, 1) := by decide +kernel
theorem dX3_brokenSteps_23 : decode cX3_brokenSteps 23 = .ok (.ishl, 1) := by decide +kernel
theorem dX3_brokenSteps_24 : decode cX3_brokenSteps 24 = .ok (.ior, 1) := by decide +kernel
theorem dX3_brokenSteps_25 : decode cX3_brokenSteps 25 = .ok (.istore_n 1, 1) := by decide +kernel
theorem dX3_brokenSteps_26 : decode cX3_brokenSteps 26 = .ok (.iinc 2 1, 3) := by decide +kernel
theorem dX3_brokenSteps_29 : decode cX3_brokenSteps 29 = .ok (.goto (-25), 3) := by decide +kernel
theorem dX3_brokenSteps_32 : decode cX3_brokenSteps 32 = .ok (.iload_n 1, 1) := by decide +kernel
theorem dX3_brokenSteps_33 : decode cX3_brokenSteps 33 = .ok (.ireturn, 1) := by decide +kernel
theorem dX3_sumOfFails_0 : decode cX3_sumOfFails 0 = .ok (.iconst 0, 1) := by decide +kernel
theorem dX3_sumOfFails_1 : decode cX3_sumOfFails 1 = .ok (.istore_n 1, 1) := by decide +kernel
theorem dX3_sumOfFails_2 : decode cX3_sumOfFails 2 = .ok (.iconst 0, 1) := by decide +kernel
theorem dX3_sumOfFails_3 : decode cX3_sumOfFails 3 = .ok (.istore_n 2, 1) := by decide +kernel
theorem dX3_sumOfFails_4 : decode cX3_sumOfFails 4 = .ok (.iload_n 2, 1) := by decide +kernel
theorem dX3_sumOfFails_5 : decode cX3_sumOfFails 5 = .ok (.aload_n 0, 1) := by decide +kernel
theorem dX3_sumOfFails_6 : decode cX3_sumOfFails 6 = .ok (.getfield 9, 3) := by decide +kernel
theorem dX3_sumOfFails_9 : decode cX3_sumOfFails 9 = .ok (.if_icmp .ge 20, 3) := by decide +kernel
theorem dX3_sumOfFails_12 : decode cX3_sumOfFails 12 = .ok (.iload_n 1, 1) := by decide +kernel
theorem dX3_sumOfFails_13 : decode cX3_sumOfFails 13 = .ok (.aload_n 0, 1) := by decide +kernel
theorem dX3_sumOfFails_14 : decode cX3_sumOfFails 14 = .ok (.getfield 38, 3) := by decide +kernel
theorem dX3_sumOfFails_17 : decode cX3_sumOfFails 17 = .ok (.iload_n 2, 1) := by decide +kernel
theorem dX3_sumOfFails_18 : decode cX3_sumOfFails 18 = .ok (.invokestatic 71, 3) := by decide +kernel
theorem dX3_sumOfFails_21 : decode cX3_sumOfFails 21 = .ok (.iadd, 1) := by decide +kernel
theorem dX3_sumOfFails_22 : decode cX3_sumOfFails 22 = .ok (.istore_n 1, 1) := by decide +kernel
theorem dX3_sumOfFails_23 : decode cX3_sumOfFails 23 = .ok (.iinc 2 1, 3) := by decide +kernel
theorem dX3_sumOfFails_26 : decode cX3_sumOfFails 26 = .ok (.goto (-22), 3) := by decide +kernel
theorem dX3_sumOfFails_29 : decode cX3_sumOfFails 29 = .ok (.iload_n 1, 1) := by decide +kernel
theorem dX3_sumOfFails_30 : decode cX3_sumOfFails 30 = .ok (.ireturn, 1) := by decide +kernel
theorem dX3_riskOf_0 : decode cX3_riskOf 0 = .ok (.iconst 0, 1) := by decide +kernel
theorem dX3_riskOf_1 : decode cX3_riskOf 1 = .ok (.istore_n 2, 1) := by decide +kernel
theorem dX3_riskOf_2 : decode cX3_riskOf 2 = .ok (.iconst 0, 1) := by decide +kernel
theorem dX3_riskOf_3 : decode cX3_riskOf 3 = .ok (.istore_n 3, 1) := by decide +kernel
theorem dX3_riskOf_4 : decode cX3_riskOf 4 = .ok (.iload_n 3, 1) := by decide +kernel
theorem dX3_riskOf_5 : decode cX3_riskOf 5 = .ok (.aload_n 0, 1) := by decide +kernel
theorem dX3_riskOf_6 : decode cX3_riskOf 6 = .ok (.getfield 9, 3) := by decide +kernel
theorem dX3_riskOf_9 : decode cX3_riskOf 9 = .ok (.if_icmp .ge 28, 3) := by decide +kernel
theorem dX3_riskOf_12 : decode cX3_riskOf 12 = .ok (.iload_n 1, 1) := by decide +kernel
theorem dX3_riskOf_13 : decode cX3_riskOf 13 = .ok (.iload_n 3, 1) := by decide +kernel
theorem dX3_riskOf_14 : decode cX3_riskOf 14 = .ok (.iushr, 1) := by decide +kernel
theorem dX3_riskOf_15 : decode cX3_riskOf 15 = .ok (.iconst 1, 1) := by decide +kernel
theorem dX3_riskOf_16 : decode cX3_riskOf 16 = .ok (.iand, 1) := by decide +kernel
theorem dX3_riskOf_17 : decode cX3_riskOf 17 = .ok (.ifCond .eq 14, 3) := by decide +kernel
theorem dX3_riskOf_20 : decode cX3_riskOf 20 = .ok (.iload_n 2, 1) := by decide +kernel
theorem dX3_riskOf_21 : decode cX3_riskOf 21 = .ok (.aload_n 0, 1) := by decide +kernel
theorem dX3_riskOf_22 : decode cX3_riskOf 22 = .ok (.getfield 31, 3) := by decide +kernel
theorem dX3_riskOf_25 : decode cX3_riskOf 25 = .ok (.iload_n 3, 1) := by decide +kernel
theorem dX3_riskOf_26 : decode cX3_riskOf 26 = .ok (.invokestatic 71, 3) := by decide +kernel
theorem dX3_riskOf_29 : decode cX3_riskOf 29 = .ok (.iadd, 1) := by decide +kernel
theorem dX3_riskOf_30 : decode cX3_riskOf 30 = .ok (.istore_n 2, 1) := by decide +kernel
theorem dX3_riskOf_31 : decode cX3_riskOf 31 = .ok (.iinc 3 1, 3) := by decide +kernel
theorem dX3_riskOf_34 : decode cX3_riskOf 34 = .ok (.goto (-30), 3) := by decide +kernel
theorem dX3_riskOf_37 : decode cX3_riskOf 37 = .ok (.iload_n 2, 1) := by decide +kernel
theorem dX3_riskOf_38 : decode cX3_riskOf 38 = .ok (.ireturn, 1) := by decide +kernel
theorem dX3_stepsToTry_0 : decode cX3_stepsToTry 0 = .ok (.iconst 0, 1) := by decide +kernel
theorem dX3_stepsToTry_1 : decode cX3_stepsToTry 1 = .ok (.istore_n 2, 1) := by decide +kernel
theorem dX3_stepsToTry_2 : decode cX3_stepsToTry 2 = .ok (.iconst 0, 1) := by decide +kernel
theorem dX3_stepsToTry_3 : decode cX3_stepsToTry 3 = .ok (.istore_n 3, 1) := by decide +kernel
theorem dX3_stepsToTry_4 : decode cX3_stepsToTry 4 = .ok (.iload_n 3, 1) := by decide +kernel
theorem dX3_stepsToTry_5 : decode cX3_stepsToTry 5 = .ok (.aload_n 0, 1) := by decide +kernel
theorem dX3_stepsToTry_6 : decode cX3_stepsToTry 6 = .ok (.getfield 9, 3) := by decide +kernel
theorem dX3_stepsToTry_9 : decode cX3_stepsToTry 9 = .ok (.if_icmp .ge 24, 3) := by decide +kernel
theorem dX3_stepsToTry_12 : decode cX3_stepsToTry 12 = .ok (.aload_n 0, 1) := by decide +kernel
theorem dX3_stepsToTry_13 : decode cX3_stepsToTry 13 = .ok (.iload_n 3, 1) := by decide +kernel
theorem dX3_stepsToTry_14 : decode cX3_stepsToTry 14 = .ok (.aload_n 1, 1) := by decide +kernel
theorem dX3_stepsToTry_15 : decode cX3_stepsToTry 15 = .ok (.invokevirtual 79, 3) := by decide +kernel
theorem dX3_stepsToTry_18 : decode cX3_stepsToTry 18 = .ok (.ifCond .ne 9, 3) := by decide +kernel
theorem dX3_stepsToTry_21 : decode cX3_stepsToTry 21 = .ok (.iload_n 2, 1) := by decide +kernel
theorem dX3_stepsToTry_22 : decode cX3_stepsToTry 22 = .ok (.iconst 1, 1) := by decide +kernel
theorem dX3_stepsToTry_23 : decode cX3_stepsToTry 23 = .ok (.iload_n 3, 1) := by decide +kernel
theorem dX3_stepsToTry_24 : decode cX3_stepsToTry 24 = .ok (.ishl, 1) := by decide +kernel
theorem dX3_stepsToTry_25 : decode cX3_stepsToTry 25 = .ok (.ior, 1) := by decide +kernel
theorem dX3_stepsToTry_26 : decode cX3_stepsToTry 26 = .ok (.istore_n 2, 1) := by decide +kernel
theorem dX3_stepsToTry_27 : decode cX3_stepsToTry 27 = .ok (.iinc 3 1, 3) := by decide +kernel
theorem dX3_stepsToTry_30 : decode cX3_stepsToTry 30 = .ok (.goto (-26), 3) := by decide +kernel
theorem dX3_stepsToTry_33 : decode cX3_stepsToTry 33 = .ok (.iload_n 2, 1) := by decide +kernel
theorem dX3_stepsToTry_34 : decode cX3_stepsToTry 34 = .ok (.ireturn, 1) := by decide +kernel
theorem dX3_hindrance_0 : decode cX3_hindrance 0 = .ok (.aload_n 0, 1) := by decide +kernel
theorem dX3_hindrance_1 : decode cX3_hindrance 1 = .ok (.getfield 15, 3) := by decide +kernel
theorem dX3_hindrance_4 : decode cX3_hindrance 4 = .ok (.ifCond .ne 17, 3) := by decide +kernel
theorem dX3_hindrance_7 : decode cX3_hindrance 7 = .ok (.aload_n 0, 1) := by decide +kernel
theorem dX3_hindrance_8 : decode cX3_hindrance 8 = .ok (.aload_n 0, 1) := by decide +kernel
theorem dX3_hindrance_9 : decode cX3_hindrance 9 = .ok (.getfield 18, 3) := by decide +kernel
theorem dX3_hindrance_12 : decode cX3_hindrance 12 = .ok (.iload_n 1, 1) := by decide +kernel
theorem dX3_hindrance_13 : decode cX3_hindrance 13 = .ok (.aload_n 2, 1) := by decide +kernel
theorem dX3_hindrance_14 : decode cX3_hindrance 14 = .ok (.iconst 0, 1) := by decide +kernel
theorem dX3_hindrance_15 : decode cX3_hindrance 15 = .ok (.invokevirtual 83, 3) := by decide +kernel
theorem dX3_hindrance_18 : decode cX3_hindrance 18 = .ok (.goto 4, 3) := by decide +kernel
theorem dX3_hindrance_21 : decode cX3_hindrance 21 = .ok (.iconst 1, 1) := by decide +kernel
theorem dX3_hindrance_22 : decode cX3_hindrance 22 = .ok (.ireturn, 1) := by decide +kernel
theorem dX3_hindranceBehind_0 : decode cX3_hindranceBehind 0 = .ok (.iload_n 1, 1) := by decide +kernel
theorem dX3_hindranceBehind_1 : decode cX3_hindranceBehind 1 = .ok (.iload_n 2, 1) := by decide +kernel
theorem dX3_hindranceBehind_2 : decode cX3_hindranceBehind 2 = .ok (.iushr, 1) := by decide +kernel
theorem dX3_hindranceBehind_3 : decode cX3_hindranceBehind 3 = .ok (.iconst 1, 1) := by decide +kernel
theorem dX3_hindranceBehind_4 : decode cX3_hindranceBehind 4 = .ok (.iand, 1) := by decide +kernel
theorem dX3_hindranceBehind_5 : decode cX3_hindranceBehind 5 = .ok (.ifCond .eq 5, 3) := by decide +kernel
theorem dX3_hindranceBehind_8 : decode cX3_hindranceBehind 8 = .ok (.iconst 2, 1) := by decide +kernel
theorem dX3_hindranceBehind_9 : decode cX3_hindranceBehind 9 = .ok (.ireturn, 1) := by decide +kernel
theorem dX3_hindranceBehind_10 : decode cX3_hindranceBehind 10 = .ok (.aload_n 0, 1) := by decide +kernel
theorem dX3_hindranceBehind_11 : decode cX3_hindranceBehind 11 = .ok (.iload_n 2, 1) := by decide +kernel
theorem dX3_hindranceBehind_12 : decode cX3_hindranceBehind 12 = .ok (.invokevirtual 75, 3) := by decide +kernel
theorem dX3_hindranceBehind_15 : decode cX3_hindranceBehind 15 = .ok (.ifCond .eq 5, 3) := by decide +kernel
theorem dX3_hindranceBehind_18 : decode cX3_hindranceBehind 18 = .ok (.iconst 3, 1) := by decide +kernel
theorem dX3_hindranceBehind_19 : decode cX3_hindranceBehind 19 = .ok (.ireturn, 1) := by decide +kernel
theorem dX3_hindranceBehind_20 : decode cX3_hindranceBehind 20 = .ok (.aload_n 0, 1) := by decide +kernel
theorem dX3_hindranceBehind_21 : decode cX3_hindranceBehind 21 = .ok (.getfield 41, 3) := by decide +kernel
theorem dX3_hindranceBehind_24 : decode cX3_hindranceBehind 24 = .ok (.iload_n 2, 1) := by decide +kernel
theorem dX3_hindranceBehind_25 : decode cX3_hindranceBehind 25 = .ok (.invokestatic 71, 3) := by decide +kernel
theorem dX3_hindranceBehind_28 : decode cX3_hindranceBehind 28 = .ok (.iload_n 1, 1) := by decide +kernel
theorem dX3_hindranceBehind_29 : decode cX3_hindranceBehind 29 = .ok (.iconst (-1), 1) := by decide +kernel
theorem dX3_hindranceBehind_30 : decode cX3_hindranceBehind 30 = .ok (.ixor, 1) := by decide +kernel
theorem dX3_hindranceBehind_31 : decode cX3_hindranceBehind 31 = .ok (.iand, 1) := by decide +kernel
theorem dX3_hindranceBehind_32 : decode cX3_hindranceBehind 32 = .ok (.ifCond .eq 5, 3) := by decide +kernel
theorem dX3_hindranceBehind_35 : decode cX3_hindranceBehind 35 = .ok (.iconst 4, 1) := by decide +kernel
theorem dX3_hindranceBehind_36 : decode cX3_hindranceBehind 36 = .ok (.ireturn, 1) := by decide +kernel
theorem dX3_hindranceBehind_37 : decode cX3_hindranceBehind 37 = .ok (.iconst 0, 1) := by decide +kernel
theorem dX3_hindranceBehind_38 : decode cX3_hindranceBehind 38 = .ok (.istore 5, 2) := by decide +kernel
theorem dX3_hindranceBehind_40 : decode cX3_hindranceBehind 40 = .ok (.iload 5, 2) := by decide +kernel
theorem dX3_hindranceBehind_42 : decode cX3_hindranceBehind 42 = .ok (.bipush 8, 2) := by decide +kernel
theorem dX3_hindranceBehind_44 : decode cX3_hindranceBehind 44 = .ok (.if_icmp .ge 53, 3) := by decide +kernel
theorem dX3_hindranceBehind_47 : decode cX3_hindranceBehind 47 = .ok (.iload_n 2, 1) := by decide +kernel
theorem dX3_hindranceBehind_48 : decode cX3_hindranceBehind 48 = .ok (.bipush 8, 2) := by decide +kernel
theorem dX3_hindranceBehind_50 : decode cX3_hindranceBehind 50 = .ok (.imul, 1) := by decide +kernel
theorem dX3_hindranceBehind_51 : decode cX3_hindranceBehind 51 = .ok (.iload 5, 2) := by decide +kernel
theorem dX3_hindranceBehind_53 : decode cX3_hindranceBehind 53 = .ok (.iadd, 1) := by decide +kernel
theorem dX3_hindranceBehind_54 : decode cX3_hindranceBehind 54 = .ok (.istore 6, 2) := by decide +kernel
theorem dX3_hindranceBehind_56 : decode cX3_hindranceBehind 56 = .ok (.aload_n 3, 1) := by decide +kernel
theorem dX3_hindranceBehind_57 : decode cX3_hindranceBehind 57 = .ok (.iload 4, 2) := by decide +kernel
theorem dX3_hindranceBehind_59 : decode cX3_hindranceBehind 59 = .ok (.iload 5, 2) := by decide +kernel
theorem dX3_hindranceBehind_61 : decode cX3_hindranceBehind 61 = .ok (.iadd, 1) := by decide +kernel
theorem dX3_hindranceBehind_62 : decode cX3_hindranceBehind 62 = .ok (.invokestatic 71, 3) := by decide +kernel
theorem dX3_hindranceBehind_65 : decode cX3_hindranceBehind 65 = .ok (.aload_n 0, 1) := by decide +kernel
theorem dX3_hindranceBehind_66 : decode cX3_hindranceBehind 66 = .ok (.getfield 47, 3) := by decide +kernel
theorem dX3_hindranceBehind_69 : decode cX3_hindranceBehind 69 = .ok (.iload 6, 2) := by decide +kernel
theorem dX3_hindranceBehind_71 : decode cX3_hindranceBehind 71 = .ok (.invokestatic 71, 3) := by decide +kernel
theorem dX3_hindranceBehind_74 : decode cX3_hindranceBehind 74 = .ok (.aload_n 0, 1) := by decide +kernel
theorem dX3_hindranceBehind_75 : decode cX3_hindranceBehind 75 = .ok (.getfield 50, 3) := by decide +kernel
theorem dX3_hindranceBehind_78 : decode cX3_hindranceBehind 78 = .ok (.iload 6, 2) := by decide +kernel
theorem dX3_hindranceBehind_80 : decode cX3_hindranceBehind 80 = .ok (.invokestatic 71, 3) := by decide +kernel
theorem dX3_hindranceBehind_83 : decode cX3_hindranceBehind 83 = .ok (.invokestatic 87, 3) := by decide +kernel
theorem dX3_hindranceBehind_86 : decode cX3_hindranceBehind 86 = .ok (.if_icmp .ge 5, 3) := by decide +kernel
theorem dX3_hindranceBehind_89 : decode cX3_hindranceBehind 89 = .ok (.iconst 5, 1) := by decide +kernel
theorem dX3_hindranceBehind_90 : decode cX3_hindranceBehind 90 = .ok (.ireturn, 1) := by decide +kernel
theorem dX3_hindranceBehind_91 : decode cX3_hindranceBehind 91 = .ok (.iinc 5 1, 3) := by decide +kernel
theorem dX3_hindranceBehind_94 : decode cX3_hindranceBehind 94 = .ok (.goto (-54), 3) := by decide +kernel
theorem dX3_hindranceBehind_97 : decode cX3_hindranceBehind 97 = .ok (.iconst 0, 1) := by decide +kernel
theorem dX3_hindranceBehind_98 : decode cX3_hindranceBehind 98 = .ok (.ireturn, 1) := by decide +kernel
theorem dX3_canStillHold_0 : decode cX3_canStillHold 0 = .ok (.iconst 0, 1) := by decide +kernel
theorem dX3_canStillHold_1 : decode cX3_canStillHold 1 = .ok (.istore_n 1, 1) := by decide +kernel
theorem dX3_canStillHold_2 : decode cX3_canStillHold 2 = .ok (.iconst 0, 1) := by decide +kernel
theorem dX3_canStillHold_3 : decode cX3_canStillHold 3 = .ok (.istore_n 2, 1) := by decide +kernel
theorem dX3_canStillHold_4 : decode cX3_canStillHold 4 = .ok (.iload_n 2, 1) := by decide +kernel
theorem dX3_canStillHold_5 : decode cX3_canStillHold 5 = .ok (.aload_n 0, 1) := by decide +kernel
theorem dX3_canStillHold_6 : decode cX3_canStillHold 6 = .ok (.getfield 9, 3) := by decide +kernel
theorem dX3_canStillHold_9 : decode cX3_canStillHold 9 = .ok (.if_icmp .ge 44, 3) := by decide +kernel
theorem dX3_canStillHold_12 : decode cX3_canStillHold 12 = .ok (.aload_n 0, 1) := by decide +kernel
theorem dX3_canStillHold_13 : decode cX3_canStillHold 13 = .ok (.iload_n 2, 1) := by decide +kernel
theorem dX3_canStillHold_14 : decode cX3_canStillHold 14 = .ok (.invokevirtual 93, 3) := by decide +kernel
theorem dX3_canStillHold_17 : decode cX3_canStillHold 17 = .ok (.ifCond .ne 30, 3) := by decide +kernel
theorem dX3_canStillHold_20 : decode cX3_canStillHold 20 = .ok (.aload_n 0, 1) := by decide +kernel
theorem dX3_canStillHold_21 : decode cX3_canStillHold 21 = .ok (.iload_n 2, 1) := by decide +kernel
theorem dX3_canStillHold_22 : decode cX3_canStillHold 22 = .ok (.invokevirtual 75, 3) := by decide +kernel
theorem dX3_canStillHold_25 : decode cX3_canStillHold 25 = .ok (.ifCond .ne 16, 3) := by decide +kernel
theorem dX3_canStillHold_28 : decode cX3_canStillHold 28 = .ok (.aload_n 0, 1) := by decide +kernel
theorem dX3_canStillHold_29 : decode cX3_canStillHold 29 = .ok (.getfield 41, 3) := by decide +kernel
theorem dX3_canStillHold_32 : decode cX3_canStillHold 32 = .ok (.iload_n 2, 1) := by decide +kernel
theorem dX3_canStillHold_33 : decode cX3_canStillHold 33 = .ok (.invokestatic 71, 3) := by decide +kernel
theorem dX3_canStillHold_36 : decode cX3_canStillHold 36 = .ok (.iload_n 1, 1) := by decide +kernel
theorem dX3_canStillHold_37 : decode cX3_canStillHold 37 = .ok (.iand, 1) := by decide +kernel
theorem dX3_canStillHold_38 : decode cX3_canStillHold 38 = .ok (.ifCond .eq 9, 3) := by decide +kernel
theorem dX3_canStillHold_41 : decode cX3_canStillHold 41 = .ok (.iload_n 1, 1) := by decide +kernel
theorem dX3_canStillHold_42 : decode cX3_canStillHold 42 = .ok (.iconst 1, 1) := by decide +kernel
theorem dX3_canStillHold_43 : decode cX3_canStillHold 43 = .ok (.iload_n 2, 1) := by decide +kernel
theorem dX3_canStillHold_44 : decode cX3_canStillHold 44 = .ok (.ishl, 1) := by decide +kernel
theorem dX3_canStillHold_45 : decode cX3_canStillHold 45 = .ok (.ior, 1) := by decide +kernel
theorem dX3_canStillHold_46 : decode cX3_canStillHold 46 = .ok (.istore_n 1, 1) := by decide +kernel
theorem dX3_canStillHold_47 : decode cX3_canStillHold 47 = .ok (.iinc 2 1, 3) := by decide +kernel
theorem dX3_canStillHold_50 : decode cX3_canStillHold 50 = .ok (.goto (-46), 3) := by decide +kernel
theorem dX3_canStillHold_53 : decode cX3_canStillHold 53 = .ok (.aload_n 0, 1) := by decide +kernel
theorem dX3_canStillHold_54 : decode cX3_canStillHold 54 = .ok (.bipush 63, 2) := by decide +kernel
theorem dX3_canStillHold_56 : decode cX3_canStillHold 56 = .ok (.iload_n 1, 1) := by decide +kernel
theorem dX3_canStillHold_57 : decode cX3_canStillHold 57 = .ok (.iconst (-1), 1) := by decide +kernel
theorem dX3_canStillHold_58 : decode cX3_canStillHold 58 = .ok (.ixor, 1) := by decide +kernel
theorem dX3_canStillHold_59 : decode cX3_canStillHold 59 = .ok (.iand, 1) := by decide +kernel
theorem dX3_canStillHold_60 : decode cX3_canStillHold 60 = .ok (.invokevirtual 96, 3) := by decide +kernel
theorem dX3_canStillHold_63 : decode cX3_canStillHold 63 = .ok (.ireturn, 1) := by decide +kernel
theorem dX4_init_0 : decode cX4_init 0 = .ok (.aload_n 0, 1) := by decide +kernel
theorem dX4_init_1 : decode cX4_init 1 = .ok (.invokespecial 3, 3) := by decide +kernel
theorem dX4_init_4 : decode cX4_init 4 = .ok (.aload_n 0, 1) := by decide +kernel
theorem dX4_init_5 : decode cX4_init 5 = .ok (.new 9, 3) := by decide +kernel
theorem dX4_init_8 : decode cX4_init 8 = .ok (.dup, 1) := by decide +kernel
theorem dX4_init_9 : decode cX4_init 9 = .ok (.invokespecial 11, 3) := by decide +kernel
theorem dX4_init_12 : decode cX4_init 12 = .ok (.putfield 12, 3) := by decide +kernel
theorem dX4_init_15 : decode cX4_init 15 = .ok (.aload_n 0, 1) := by decide +kernel
theorem dX4_init_16 : decode cX4_init 16 = .ok (.new 18, 3) := by decide +kernel
theorem dX4_init_19 : decode cX4_init 19 = .ok (.dup, 1) := by decide +kernel
theorem dX4_init_20 : decode cX4_init 20 = .ok (.invokespecial 20, 3) := by decide +kernel
theorem dX4_init_23 : decode cX4_init 23 = .ok (.putfield 21, 3) := by decide +kernel
theorem dX4_init_26 : decode cX4_init 26 = .ok (.aload_n 0, 1) := by decide +kernel
theorem dX4_init_27 : decode cX4_init 27 = .ok (.new 25, 3) := by decide +kernel
theorem dX4_init_30 : decode cX4_init 30 = .ok (.dup, 1) := by decide +kernel
theorem dX4_init_31 : decode cX4_init 31 = .ok (.invokespecial 27, 3) := by decide +kernel
theorem dX4_init_34 : decode cX4_init 34 = .ok (.putfield 28, 3) := by decide +kernel
theorem dX4_init_37 : decode cX4_init 37 = .ok (.aload_n 0, 1) := by decide +kernel
theorem dX4_init_38 : decode cX4_init 38 = .ok (.iconst 0, 1) := by decide +kernel
theorem dX4_init_39 : decode cX4_init 39 = .ok (.putfield 32, 3) := by decide +kernel
theorem dX4_init_42 : decode cX4_init 42 = .ok (.aload_n 0, 1) := by decide +kernel
theorem dX4_init_43 : decode cX4_init 43 = .ok (.iconst 0, 1) := by decide +kernel
theorem dX4_init_44 : decode cX4_init 44 = .ok (.putfield 36, 3) := by decide +kernel
theorem dX4_init_47 : decode cX4_init 47 = .ok (.aload_n 0, 1) := by decide +kernel
theorem dX4_init_48 : decode cX4_init 48 = .ok (.iconst 0, 1) := by decide +kernel
theorem dX4_init_49 : decode cX4_init 49 = .ok (.putfield 40, 3) := by decide +kernel
theorem dX4_init_52 : decode cX4_init 52 = .ok (.return_, 1) := by decide +kernel
theorem dX4_offsetOfError_0 : decode cX4_offsetOfError 0 = .ok (.aload_n 0, 1) := by decide +kernel
theorem dX4_offsetOfError_1 : decode cX4_offsetOfError 1 = .ok (.getfield 12, 3) := by decide +kernel
theorem dX4_offsetOfError_4 : decode cX4_offsetOfError 4 = .ok (.getfield 43, 3) := by decide +kernel
theorem dX4_offsetOfError_7 : decode cX4_offsetOfError 7 = .ok (.ireturn, 1) := by decide +kernel
theorem dX4_read_0 : decode cX4_read 0 = .ok (.aload_n 0, 1) := by decide +kernel
theorem dX4_read_1 : decode cX4_read 1 = .ok (.getfield 12, 3) := by decide +kernel
theorem dX4_read_4 : decode cX4_read 4 = .ok (.aload_n 1, 1) := by decide +kernel
theorem dX4_read_5 : decode cX4_read 5 = .ok (.iload_n 2, 1) := by decide +kernel
theorem dX4_read_6 : decode cX4_read 6 = .ok (.invokevirtual 46, 3) := by decide +kernel
theorem dX4_read_9 : decode cX4_read 9 = .ok (.aload_n 0, 1) := by decide +kernel
theorem dX4_read_10 : decode cX4_read 10 = .ok (.aload_n 3, 1) := by decide +kernel
theorem dX4_read_11 : decode cX4_read 11 = .ok (.invokevirtual 50, 3) := by decide +kernel
theorem dX4_read_14 : decode cX4_read 14 = .ok (.aload_n 0, 1) := by decide +kernel
theorem dX4_read_15 : decode cX4_read 15 = .ok (.getfield 12, 3) := by decide +kernel
theorem dX4_read_18 : decode cX4_read 18 = .ok (.getstatic 54, 3) := by decide +kernel
theorem dX4_read_21 : decode cX4_read 21 = .ok (.invokevirtual 60, 3) := by decide +kernel
theorem dX4_read_24 : decode cX4_read 24 = .ok (.aload_n 0, 1) := by decide +kernel
theorem dX4_read_25 : decode cX4_read 25 = .ok (.getfield 12, 3) := by decide +kernel
theorem dX4_read_28 : decode cX4_read 28 = .ok (.getstatic 64, 3) := by decide +kernel
theorem dX4_read_31 : decode cX4_read 31 = .ok (.invokevirtual 60, 3) := by decide +kernel
theorem dX4_read_34 : decode cX4_read 34 = .ok (.iconst 0, 1) := by decide +kernel
theorem dX4_read_35 : decode cX4_read 35 = .ok (.istore 4, 2) := by decide +kernel
theorem dX4_read_37 : decode cX4_read 37 = .ok (.iload 4, 2) := by decide +kernel
theorem dX4_read_39 : decode cX4_read 39 = .ok (.sipush 800, 3) := by decide +kernel
theorem dX4_read_42 : decode cX4_read 42 = .ok (.if_icmp .ge 122, 3) := by decide +kernel
theorem dX4_read_45 : decode cX4_read 45 = .ok (.aload_n 0, 1) := by decide +kernel
theorem dX4_read_46 : decode cX4_read 46 = .ok (.getfield 12, 3) := by decide +kernel
theorem dX4_read_49 : decode cX4_read 49 = .ok (.invokevirtual 67, 3) := by decide +kernel
theorem dX4_read_52 : decode cX4_read 52 = .ok (.ifCond .eq 112, 3) := by decide +kernel
theorem dX4_read_55 : decode cX4_read 55 = .ok (.aload_n 0, 1) := by decide +kernel
theorem dX4_read_56 : decode cX4_read 56 = .ok (.getfield 12, 3) := by decide +kernel
theorem dX4_read_59 : decode cX4_read 59 = .ok (.invokevirtual 71, 3) := by decide +kernel
theorem dX4_read_62 : decode cX4_read 62 = .ok (.astore 5, 2) := by decide +kernel
theorem dX4_read_64 : decode cX4_read 64 = .ok (.aload 5, 2) := by decide +kernel
theorem dX4_read_66 : decode cX4_read 66 = .ok (.getstatic 75, 3) := by decide +kernel
theorem dX4_read_69 : decode cX4_read 69 = .ok (.if_acmp .ne 11, 3) := by decide +kernel
theorem dX4_read_72 : decode cX4_read 72 = .ok (.aload_n 0, 1) := by decide +kernel
theorem dX4_read_73 : decode cX4_read 73 = .ok (.aload_n 3, 1) := by decide +kernel
theorem dX4_read_74 : decode cX4_read 74 = .ok (.invokevirtual 78, 3) := by decide +kernel
theorem dX4_read_77 : decode cX4_read 77 = .ok (.goto 81, 3) := by decide +kernel
theorem dX4_read_80 : decode cX4_read 80 = .ok (.aload 5, 2) := by decide +kernel
theorem dX4_read_82 : decode cX4_read 82 = .ok (.getstatic 81, 3) := by decide +kernel
theorem dX4_read_85 : decode cX4_read 85 = .ok (.if_acmp .ne 18, 3) := by decide +kernel
theorem dX4_read_88 : decode cX4_read 88 = .ok (.aload_n 0, 1) := by decide +kernel
theorem dX4_read_89 : decode cX4_read 89 = .ok (.getfield 36, 3) := by decide +kernel
theorem dX4_read_92 : decode cX4_read 92 = .ok (.ifCond .ne 11, 3) := by decide +kernel
theorem dX4_read_95 : decode cX4_read 95 = .ok (.aload_n 0, 1) := by decide +kernel
theorem dX4_read_96 : decode cX4_read 96 = .ok (.aload_n 3, 1) := by decide +kernel
theorem dX4_read_97 : decode cX4_read 97 = .ok (.invokevirtual 84, 3) := by decide +kernel
theorem dX4_read_100 : decode cX4_read 100 = .ok (.goto 58, 3) := by decide +kernel
theorem dX4_read_103 : decode cX4_read 103 = .ok (.aload 5, 2) := by decide +kernel
theorem dX4_read_105 : decode cX4_read 105 = .ok (.getstatic 87, 3) := by decide +kernel
theorem dX4_read_108 : decode cX4_read 108 = .ok (.if_acmp .ne 18, 3) := by decide +kernel
theorem dX4_read_111 : decode cX4_read 111 = .ok (.aload_n 0, 1) := by decide +kernel
theorem dX4_read_112 : decode cX4_read 112 = .ok (.getfield 40, 3) := by decide +kernel
theorem dX4_read_115 : decode cX4_read 115 = .ok (.ifCond .ne 11, 3) := by decide +kernel
theorem dX4_read_118 : decode cX4_read 118 = .ok (.aload_n 0, 1) := by decide +kernel
theorem dX4_read_119 : decode cX4_read 119 = .ok (.aload_n 3, 1) := by decide +kernel
theorem dX4_read_120 : decode cX4_read 120 = .ok (.invokevirtual 90, 3) := by decide +kernel
theorem dX4_read_123 : decode cX4_read 123 = .ok (.goto 35, 3) := by decide +kernel
theorem dX4_read_126 : decode cX4_read 126 = .ok (.aload 5, 2) := by decide +kernel
theorem dX4_read_128 : decode cX4_read 128 = .ok (.getstatic 93, 3) := by decide +kernel
theorem dX4_read_131 : decode cX4_read 131 = .ok (.if_acmp .ne 11, 3) := by decide +kernel
theorem dX4_read_134 : decode cX4_read 134 = .ok (.aload_n 0, 1) := by decide +kernel
theorem dX4_read_135 : decode cX4_read 135 = .ok (.aload_n 3, 1) := by decide +kernel
theorem dX4_read_136 : decode cX4_read 136 = .ok (.invokevirtual 96, 3) := by decide +kernel
theorem dX4_read_139 : decode cX4_read 139 = .ok (.goto 19, 3) := by decide +kernel
theorem dX4_read_142 : decode cX4_read 142 = .ok (.aload_n 0, 1) := by decide +kernel
theorem dX4_read_143 : decode cX4_read 143 = .ok (.getfield 12, 3) := by decide +kernel
theorem dX4_read_146 : decode cX4_read 146 = .ok (.bipush (-2), 2) := by decide +kernel
theorem dX4_read_148 : decode cX4_read 148 = .ok (.aload_n 0, 1) := by decide +kernel
theorem dX4_read_149 : decode cX4_read 149 = .ok (.getfield 12, 3) := by decide +kernel
theorem dX4_read_152 : decode cX4_read 152 = .ok (.invokevirtual 99, 3) := by decide +kernel
theorem dX4_read_155 : decode cX4_read 155 = .ok (.invokevirtual 103, 3) := by decide +kernel
theorem dX4_read_158 : decode cX4_read 158 = .ok (.iinc 4 1, 3) := by decide +kernel
theorem dX4_read_161 : decode cX4_read 161 = .ok (.goto (-124), 3) := by decide +kernel
theorem dX4_read_164 : decode cX4_read 164 = .ok (.aload_n 0, 1) := by decide +kernel
theorem dX4_read_165 : decode cX4_read 165 = .ok (.getfield 12, 3) := by decide +kernel
theorem dX4_read_168 : decode cX4_read 168 = .ok (.getfield 107, 3) := by decide +kernel
theorem dX4_read_171 : decode cX4_read 171 = .ok (.ireturn, 1) := by decide +kernel
theorem dX4_begin_0 : decode cX4_begin 0 = .ok (.aload_n 1, 1) := by decide +kernel
theorem dX4_begin_1 : decode cX4_begin 1 = .ok (.invokevirtual 110, 3) := by decide +kernel
theorem dX4_begin_4 : decode cX4_begin 4 = .ok (.aload_n 1, 1) := by decide +kernel
theorem dX4_begin_5 : decode cX4_begin 5 = .ok (.bipush (-5), 2) := by decide +kernel
theorem dX4_begin_7 : decode cX4_begin 7 = .ok (.invokevirtual 115, 3) := by decide +kernel
theorem dX4_begin_10 : decode cX4_begin 10 = .ok (.aload_n 0, 1) := by decide +kernel
theorem dX4_begin_11 : decode cX4_begin 11 = .ok (.iconst 0, 1) := by decide +kernel
theorem dX4_begin_12 : decode cX4_begin 12 = .ok (.putfield 32, 3) := by decide +kernel
theorem dX4_begin_15 : decode cX4_begin 15 = .ok (.aload_n 0, 1) := by decide +kernel
theorem dX4_begin_16 : decode cX4_begin 16 = .ok (.iconst 0, 1) := by decide +kernel
theorem dX4_begin_17 : decode cX4_begin 17 = .ok (.putfield 36, 3) := by decide +kernel
theorem dX4_begin_20 : decode cX4_begin 20 = .ok (.aload_n 0, 1) := by decide +kernel
theorem dX4_begin_21 : decode cX4_begin 21 = .ok (.iconst 0, 1) := by decide +kernel
theorem dX4_begin_22 : decode cX4_begin 22 = .ok (.putfield 40, 3) := by decide +kernel
theorem dX4_begin_25 : decode cX4_begin 25 = .ok (.return_, 1) := by decide +kernel
theorem dX4_readStock_0 : decode cX4_readStock 0 = .ok (.aload_n 0, 1) := by decide +kernel
theorem dX4_readStock_1 : decode cX4_readStock 1 = .ok (.getfield 12, 3) := by decide +kernel
theorem dX4_readStock_4 : decode cX4_readStock 4 = .ok (.invokevirtual 119, 3) := by decide +kernel
theorem dX4_readStock_7 : decode cX4_readStock 7 = .ok (.iconst 0, 1) := by decide +kernel
theorem dX4_readStock_8 : decode cX4_readStock 8 = .ok (.istore_n 2, 1) := by decide +kernel
theorem dX4_readStock_9 : decode cX4_readStock 9 = .ok (.iload_n 2, 1) := by decide +kernel
theorem dX4_readStock_10 : decode cX4_readStock 10 = .ok (.sipush 800, 3) := by decide +kernel
theorem dX4_readStock_13 : decode cX4_readStock 13 = .ok (.if_icmp .ge 101, 3) := by decide +kernel
theorem dX4_readStock_16 : decode cX4_readStock 16 = .ok (.iload_n 2, 1) := by decide +kernel
theorem dX4_readStock_17 : decode cX4_readStock 17 = .ok (.ifCond .eq 16, 3) := by decide +kernel
theorem dX4_readStock_20 : decode cX4_readStock 20 = .ok (.aload_n 0, 1) := by decide +kernel
theorem dX4_readStock_21 : decode cX4_readStock 21 = .ok (.getfield 12, 3) := by decide +kernel
theorem dX4_readStock_24 : decode cX4_readStock 24 = .ok (.invokevirtual 71, 3) := by decide +kernel
theorem dX4_readStock_27 : decode cX4_readStock 27 = .ok (.getstatic 122, 3) := by decide +kernel
theorem dX4_readStock_30 : decode cX4_readStock 30 = .ok (.if_acmp .ne 84, 3) := by decide +kernel
theorem dX4_readStock_33 : decode cX4_readStock 33 = .ok (.aload_n 0, 1) := by decide +kernel
theorem dX4_readStock_34 : decode cX4_readStock 34 = .ok (.getfield 12, 3) := by decide +kernel
theorem dX4_readStock_37 : decode cX4_readStock 37 = .ok (.invokevirtual 99, 3) := by decide +kernel
theorem dX4_readStock_40 : decode cX4_readStock 40 = .ok (.istore_n 3, 1) := by decide +kernel
theorem dX4_readStock_41 : decode cX4_readStock 41 = .ok (.aload_n 0, 1) := by decide +kernel
theorem dX4_readStock_42 : decode cX4_readStock 42 = .ok (.getfield 12, 3) := by decide +kernel
theorem dX4_readStock_45 : decode cX4_readStock 45 = .ok (.iconst 0, 1) := by decide +kernel
theorem dX4_readStock_46 : decode cX4_readStock 46 = .ok (.bipush 7, 2) := by decide +kernel
theorem dX4_readStock_48 : decode cX4_readStock 48 = .ok (.invokevirtual 125, 3) := by decide +kernel
theorem dX4_readStock_51 : decode cX4_readStock 51 = .ok (.istore 4, 2) := by decide +kernel
theorem dX4_readStock_53 : decode cX4_readStock 53 = .ok (.aload_n 0, 1) := by decide +kernel
theorem dX4_readStock_54 : decode cX4_readStock 54 = .ok (.getfield 32, 3) := by decide +kernel
theorem dX4_readStock_57 : decode cX4_readStock 57 = .ok (.iload 4, 2) := by decide +kernel
theorem dX4_readStock_59 : decode cX4_readStock 59 = .ok (.iushr, 1) := by decide +kernel
theorem dX4_readStock_60 : decode cX4_readStock 60 = .ok (.iconst 1, 1) := by decide +kernel
theorem dX4_readStock_61 : decode cX4_readStock 61 = .ok (.iand, 1) := by decide +kernel
theorem dX4_readStock_62 : decode cX4_readStock 62 = .ok (.ifCond .eq 13, 3) := by decide +kernel
theorem dX4_readStock_65 : decode cX4_readStock 65 = .ok (.aload_n 0, 1) := by decide +kernel
theorem dX4_readStock_66 : decode cX4_readStock 66 = .ok (.getfield 12, 3) := by decide +kernel
theorem dX4_readStock_69 : decode cX4_readStock 69 = .ok (.bipush (-4), 2) := by decide +kernel
theorem dX4_readStock_71 : decode cX4_readStock 71 = .ok (.iload_n 3, 1) := by decide +kernel
theorem dX4_readStock_72 : decode cX4_readStock 72 = .ok (.invokevirtual 103, 3) := by decide +kernel
theorem dX4_readStock_75 : decode cX4_readStock 75 = .ok (.aload_n 0, 1) := by decide +kernel
theorem dX4_readStock_76 : decode cX4_readStock 76 = .ok (.dup, 1) := by decide +kernel
theorem dX4_readStock_77 : decode cX4_readStock 77 = .ok (.getfield 32, 3) := by decide +kernel
theorem dX4_readStock_80 : decode cX4_readStock 80 = .ok (.iconst 1, 1) := by decide +kernel
theorem dX4_readStock_81 : decode cX4_readStock 81 = .ok (.iload 4, 2) := by decide +kernel
theorem dX4_readStock_83 : decode cX4_readStock 83 = .ok (.ishl, 1) := by decide +kernel
theorem dX4_readStock_84 : decode cX4_readStock 84 = .ok (.ior, 1) := by decide +kernel
theorem dX4_readStock_85 : decode cX4_readStock 85 = .ok (.putfield 32, 3) := by decide +kernel
theorem dX4_readStock_88 : decode cX4_readStock 88 = .ok (.aload_n 1, 1) := by decide +kernel
theorem dX4_readStock_89 : decode cX4_readStock 89 = .ok (.getfield 129, 3) := by decide +kernel
theorem dX4_readStock_92 : decode cX4_readStock 92 = .ok (.iload 4, 2) := by decide +kernel
theorem dX4_readStock_94 : decode cX4_readStock 94 = .ok (.aload_n 0, 1) := by decide +kernel
theorem dX4_readStock_95 : decode cX4_readStock 95 = .ok (.getfield 12, 3) := by decide +kernel
theorem dX4_readStock_98 : decode cX4_readStock 98 = .ok (.iconst 0, 1) := by decide +kernel
theorem dX4_readStock_99 : decode cX4_readStock 99 = .ok (.sipush 999, 3) := by decide +kernel
theorem dX4_readStock_102 : decode cX4_readStock 102 = .ok (.invokevirtual 125, 3) := by decide +kernel
theorem dX4_readStock_105 : decode cX4_readStock 105 = .ok (.invokestatic 133, 3) := by decide +kernel
theorem dX4_readStock_108 : decode cX4_readStock 108 = .ok (.iinc 2 1, 3) := by decide +kernel
theorem dX4_readStock_111 : decode cX4_readStock 111 = .ok (.goto (-102), 3) := by decide +kernel
theorem dX4_readStock_114 : decode cX4_readStock 114 = .ok (.aload_n 0, 1) := by decide +kernel
theorem dX4_readStock_115 : decode cX4_readStock 115 = .ok (.getfield 12, 3) := by decide +kernel
theorem dX4_readStock_118 : decode cX4_readStock 118 = .ok (.getstatic 64, 3) := by decide +kernel
theorem dX4_readStock_121 : decode cX4_readStock 121 = .ok (.invokevirtual 60, 3) := by decide +kernel
theorem dX4_readStock_124 : decode cX4_readStock 124 = .ok (.return_, 1) := by decide +kernel
theorem dX4_readSeed_0 : decode cX4_readSeed 0 = .ok (.aload_n 0, 1) := by decide +kernel
theorem dX4_readSeed_1 : decode cX4_readSeed 1 = .ok (.getfield 12, 3) := by decide +kernel
theorem dX4_readSeed_4 : decode cX4_readSeed 4 = .ok (.invokevirtual 119, 3) := by decide +kernel
theorem dX4_readSeed_7 : decode cX4_readSeed 7 = .ok (.aload_n 1, 1) := by decide +kernel
theorem dX4_readSeed_8 : decode cX4_readSeed 8 = .ok (.aload_n 0, 1) := by decide +kernel
theorem dX4_readSeed_9 : decode cX4_readSeed 9 = .ok (.getfield 12, 3) := by decide +kernel
theorem dX4_readSeed_12 : decode cX4_readSeed 12 = .ok (.iconst 0, 1) := by decide +kernel
theorem dX4_readSeed_13 : decode cX4_readSeed 13 = .ok (.sipush 9999, 3) := by decide +kernel
theorem dX4_readSeed_16 : decode cX4_readSeed 16 = .ok (.invokevirtual 125, 3) := by decide +kernel
theorem dX4_readSeed_19 : decode cX4_readSeed 19 = .ok (.putfield 137, 3) := by decide +kernel
theorem dX4_readSeed_22 : decode cX4_readSeed 22 = .ok (.aload_n 0, 1) := by decide +kernel
theorem dX4_readSeed_23 : decode cX4_readSeed 23 = .ok (.getfield 12, 3) := by decide +kernel
theorem dX4_readSeed_26 : decode cX4_readSeed 26 = .ok (.getstatic 64, 3) := by decide +kernel
theorem dX4_readSeed_29 : decode cX4_readSeed 29 = .ok (.invokevirtual 60, 3) := by decide +kernel
theorem dX4_readSeed_32 : decode cX4_readSeed 32 = .ok (.aload_n 0, 1) := by decide +kernel
theorem dX4_readSeed_33 : decode cX4_readSeed 33 = .ok (.iconst 1, 1) := by decide +kernel
theorem dX4_readSeed_34 : decode cX4_readSeed 34 = .ok (.putfield 36, 3) := by decide +kernel
theorem dX4_readSeed_37 : decode cX4_readSeed 37 = .ok (.return_, 1) := by decide +kernel
theorem dX4_readWorth_0 : decode cX4_readWorth 0 = .ok (.aload_n 0, 1) := by decide +kernel
theorem dX4_readWorth_1 : decode cX4_readWorth 1 = .ok (.getfield 12, 3) := by decide +kernel
theorem dX4_readWorth_4 : decode cX4_readWorth 4 = .ok (.invokevirtual 119, 3) := by decide +kernel
theorem dX4_readWorth_7 : decode cX4_readWorth 7 = .ok (.aload_n 1, 1) := by decide +kernel
theorem dX4_readWorth_8 : decode cX4_readWorth 8 = .ok (.iconst 0, 1) := by decide +kernel
theorem dX4_readWorth_9 : decode cX4_readWorth 9 = .ok (.putfield 140, 3) := by decide +kernel
theorem dX4_readWorth_12 : decode cX4_readWorth 12 = .ok (.aload_n 0, 1) := by decide +kernel
theorem dX4_readWorth_13 : decode cX4_readWorth 13 = .ok (.getfield 28, 3) := by decide +kernel
theorem dX4_readWorth_16 : decode cX4_readWorth 16 = .ok (.aload_n 0, 1) := by decide +kernel
theorem dX4_readWorth_17 : decode cX4_readWorth 17 = .ok (.getfield 12, 3) := by decide +kernel
theorem dX4_readWorth_20 : decode cX4_readWorth 20 = .ok (.aload_n 1, 1) := by decide +kernel
theorem dX4_readWorth_21 : decode cX4_readWorth 21 = .ok (.iconst 0, 1) := by decide +kernel
theorem dX4_readWorth_22 : decode cX4_readWorth 22 = .ok (.invokevirtual 143, 3) := by decide +kernel
theorem dX4_readWorth_25 : decode cX4_readWorth 25 = .ok (.aload_n 0, 1) := by decide +kernel
theorem dX4_readWorth_26 : decode cX4_readWorth 26 = .ok (.getfield 12, 3) := by decide +kernel
theorem dX4_readWorth_29 : decode cX4_readWorth 29 = .ok (.getstatic 64, 3) := by decide +kernel
theorem dX4_readWorth_32 : decode cX4_readWorth 32 = .ok (.invokevirtual 60, 3) := by decide +kernel
theorem dX4_readWorth_35 : decode cX4_readWorth 35 = .ok (.aload_n 0, 1) := by decide +kernel
theorem dX4_readWorth_36 : decode cX4_readWorth 36 = .ok (.iconst 1, 1) := by decide +kernel
theorem dX4_readWorth_37 : decode cX4_readWorth 37 = .ok (.putfield 40, 3) := by decide +kernel
theorem dX4_readWorth_40 : decode cX4_readWorth 40 = .ok (.return_, 1) := by decide +kernel
theorem dX4_readQuest_0 : decode cX4_readQuest 0 = .ok (.aload_n 1, 1) := by decide +kernel
theorem dX4_readQuest_1 : decode cX4_readQuest 1 = .ok (.getfield 147, 3) := by decide +kernel
theorem dX4_readQuest_4 : decode cX4_readQuest 4 = .ok (.istore_n 2, 1) := by decide +kernel
theorem dX4_readQuest_5 : decode cX4_readQuest 5 = .ok (.iload_n 2, 1) := by decide +kernel
theorem dX4_readQuest_6 : decode cX4_readQuest 6 = .ok (.ifCond .lt 9, 3) := by decide +kernel
theorem dX4_readQuest_9 : decode cX4_readQuest 9 = .ok (.iload_n 2, 1) := by decide +kernel
theorem dX4_readQuest_10 : decode cX4_readQuest 10 = .ok (.bipush 6, 2) := by decide +kernel
theorem dX4_readQuest_12 : decode cX4_readQuest 12 = .ok (.if_icmp .lt 20, 3) := by decide +kernel
theorem dX4_readQuest_15 : decode cX4_readQuest 15 = .ok (.aload_n 0, 1) := by decide +kernel
theorem dX4_readQuest_16 : decode cX4_readQuest 16 = .ok (.getfield 12, 3) := by decide +kernel
theorem dX4_readQuest_19 : decode cX4_readQuest 19 = .ok (.bipush (-5), 2) := by decide +kernel
theorem dX4_readQuest_21 : decode cX4_readQuest 21 = .ok (.aload_n 0, 1) := by decide +kernel
theorem dX4_readQuest_22 : decode cX4_readQuest 22 = .ok (.getfield 12, 3) := by decide +kernel
theorem dX4_readQuest_25 : decode cX4_readQuest 25 = .ok (.invokevirtual 99, 3) := by decide +kernel
theorem dX4_readQuest_28 : decode cX4_readQuest 28 = .ok (.invokevirtual 103, 3) := by decide +kernel
theorem dX4_readQuest_31 : decode cX4_readQuest 31 = .ok (.return_, 1) := by decide +kernel
theorem dX4_readQuest_32 : decode cX4_readQuest 32 = .ok (.aload_n 1, 1) := by decide +kernel
theorem dX4_readQuest_33 : decode cX4_readQuest 33 = .ok (.getfield 150, 3) := by decide +kernel
theorem dX4_readQuest_36 : decode cX4_readQuest 36 = .ok (.iload_n 2, 1) := by decide +kernel
theorem dX4_readQuest_37 : decode cX4_readQuest 37 = .ok (.aaload, 1) := by decide +kernel
theorem dX4_readQuest_38 : decode cX4_readQuest 38 = .ok (.astore_n 3, 1) := by decide +kernel
theorem dX4_readQuest_39 : decode cX4_readQuest 39 = .ok (.aload_n 3, 1) := by decide +kernel
theorem dX4_readQuest_40 : decode cX4_readQuest 40 = .ok (.invokevirtual 154, 3) := by decide +kernel
theorem dX4_readQuest_43 : decode cX4_readQuest 43 = .ok (.aload_n 0, 1) := by decide +kernel
theorem dX4_readQuest_44 : decode cX4_readQuest 44 = .ok (.getfield 12, 3) := by decide +kernel
theorem dX4_readQuest_47 : decode cX4_readQuest 47 = .ok (.invokevirtual 119, 3) := by decide +kernel
theorem dX4_readQuest_50 : decode cX4_readQuest 50 = .ok (.aload_n 3, 1) := by decide +kernel
theorem dX4_readQuest_51 : decode cX4_readQuest 51 = .ok (.aload_n 0, 1) := by decide +kernel
theorem dX4_readQuest_52 : decode cX4_readQuest 52 = .ok (.getfield 12, 3) := by decide +kernel
theorem dX4_readQuest_55 : decode cX4_readQuest 55 = .ok (.iconst 0, 1) := by decide +kernel
theorem dX4_readQuest_56 : decode cX4_readQuest 56 = .ok (.bipush 7, 2) := by decide +kernel
theorem dX4_readQuest_58 : decode cX4_readQuest 58 = .ok (.invokevirtual 125, 3) := by decide +kernel
theorem dX4_readQuest_61 : decode cX4_readQuest 61 = .ok (.putfield 157, 3) := by decide +kernel
theorem dX4_readQuest_64 : decode cX4_readQuest 64 = .ok (.aload_n 3, 1) := by decide +kernel
theorem dX4_readQuest_65 : decode cX4_readQuest 65 = .ok (.aload_n 0, 1) := by decide +kernel
theorem dX4_readQuest_66 : decode cX4_readQuest 66 = .ok (.getfield 12, 3) := by decide +kernel
theorem dX4_readQuest_69 : decode cX4_readQuest 69 = .ok (.iconst 0, 1) := by decide +kernel
theorem dX4_readQuest_70 : decode cX4_readQuest 70 = .ok (.bipush 99, 2) := by decide +kernel
theorem dX4_readQuest_72 : decode cX4_readQuest 72 = .ok (.invokevirtual 125, 3) := by decide +kernel
theorem dX4_readQuest_75 : decode cX4_readQuest 75 = .ok (.putfield 160, 3) := by decide +kernel
theorem dX4_readQuest_78 : decode cX4_readQuest 78 = .ok (.aload_n 0, 1) := by decide +kernel
theorem dX4_readQuest_79 : decode cX4_readQuest 79 = .ok (.getfield 12, 3) := by decide +kernel
theorem dX4_readQuest_82 : decode cX4_readQuest 82 = .ok (.getstatic 64, 3) := by decide +kernel
theorem dX4_readQuest_85 : decode cX4_readQuest 85 = .ok (.invokevirtual 60, 3) := by decide +kernel
theorem dX4_readQuest_88 : decode cX4_readQuest 88 = .ok (.iconst 0, 1) := by decide +kernel
theorem dX4_readQuest_89 : decode cX4_readQuest 89 = .ok (.istore 4, 2) := by decide +kernel
theorem dX4_readQuest_91 : decode cX4_readQuest 91 = .ok (.iload 4, 2) := by decide +kernel
theorem dX4_readQuest_93 : decode cX4_readQuest 93 = .ok (.sipush 800, 3) := by decide +kernel
theorem dX4_readQuest_96 : decode cX4_readQuest 96 = .ok (.if_icmp .ge 32, 3) := by decide +kernel
theorem dX4_readQuest_99 : decode cX4_readQuest 99 = .ok (.iload 4, 2) := by decide +kernel
theorem dX4_readQuest_101 : decode cX4_readQuest 101 = .ok (.ifCond .eq 16, 3) := by decide +kernel
theorem dX4_readQuest_104 : decode cX4_readQuest 104 = .ok (.aload_n 0, 1) := by decide +kernel
theorem dX4_readQuest_105 : decode cX4_readQuest 105 = .ok (.getfield 12, 3) := by decide +kernel
theorem dX4_readQuest_108 : decode cX4_readQuest 108 = .ok (.invokevirtual 71, 3) := by decide +kernel
theorem dX4_readQuest_111 : decode cX4_readQuest 111 = .ok (.getstatic 163, 3) := by decide +kernel
theorem dX4_readQuest_114 : decode cX4_readQuest 114 = .ok (.if_acmp .ne 14, 3) := by decide +kernel
theorem dX4_readQuest_117 : decode cX4_readQuest 117 = .ok (.aload_n 0, 1) := by decide +kernel
theorem dX4_readQuest_118 : decode cX4_readQuest 118 = .ok (.aload_n 3, 1) := by decide +kernel
theorem dX4_readQuest_119 : decode cX4_readQuest 119 = .ok (.invokevirtual 166, 3) := by decide +kernel
theorem dX4_readQuest_122 : decode cX4_readQuest 122 = .ok (.iinc 4 1, 3) := by decide +kernel
theorem dX4_readQuest_125 : decode cX4_readQuest 125 = .ok (.goto (-34), 3) := by decide +kernel
theorem dX4_readQuest_128 : decode cX4_readQuest 128 = .ok (.aload_n 0, 1) := by decide +kernel
theorem dX4_readQuest_129 : decode cX4_readQuest 129 = .ok (.getfield 12, 3) := by decide +kernel
theorem dX4_readQuest_132 : decode cX4_readQuest 132 = .ok (.getstatic 170, 3) := by decide +kernel
theorem dX4_readQuest_135 : decode cX4_readQuest 135 = .ok (.invokevirtual 60, 3) := by decide +kernel
theorem dX4_readQuest_138 : decode cX4_readQuest 138 = .ok (.aload_n 3, 1) := by decide +kernel
theorem dX4_readQuest_139 : decode cX4_readQuest 139 = .ok (.aload_n 0, 1) := by decide +kernel
theorem dX4_readQuest_140 : decode cX4_readQuest 140 = .ok (.getfield 21, 3) := by decide +kernel
theorem dX4_readQuest_143 : decode cX4_readQuest 143 = .ok (.aload_n 0, 1) := by decide +kernel
theorem dX4_readQuest_144 : decode cX4_readQuest 144 = .ok (.getfield 12, 3) := by decide +kernel
theorem dX4_readQuest_147 : decode cX4_readQuest 147 = .ok (.aload_n 3, 1) := by decide +kernel
theorem dX4_readQuest_148 : decode cX4_readQuest 148 = .ok (.getfield 173, 3) := by decide +kernel
theorem dX4_readQuest_151 : decode cX4_readQuest 151 = .ok (.iconst 0, 1) := by decide +kernel
theorem dX4_readQuest_152 : decode cX4_readQuest 152 = .ok (.invokevirtual 176, 3) := by decide +kernel
theorem dX4_readQuest_155 : decode cX4_readQuest 155 = .ok (.putfield 180, 3) := by decide +kernel
theorem dX4_readQuest_158 : decode cX4_readQuest 158 = .ok (.aload_n 0, 1) := by decide +kernel
theorem dX4_readQuest_159 : decode cX4_readQuest 159 = .ok (.getfield 12, 3) := by decide +kernel
theorem dX4_readQuest_162 : decode cX4_readQuest 162 = .ok (.getstatic 64, 3) := by decide +kernel
theorem dX4_readQuest_165 : decode cX4_readQuest 165 = .ok (.invokevirtual 60, 3) := by decide +kernel
theorem dX4_readQuest_168 : decode cX4_readQuest 168 = .ok (.aload_n 1, 1) := by decide +kernel
theorem dX4_readQuest_169 : decode cX4_readQuest 169 = .ok (.dup, 1) := by decide +kernel
theorem dX4_readQuest_170 : decode cX4_readQuest 170 = .ok (.getfield 147, 3) := by decide +kernel
theorem dX4_readQuest_173 : decode cX4_readQuest 173 = .ok (.iconst 1, 1) := by decide +kernel
theorem dX4_readQuest_174 : decode cX4_readQuest 174 = .ok (.iadd, 1) := by decide +kernel
theorem dX4_readQuest_175 : decode cX4_readQuest 175 = .ok (.putfield 147, 3) := by decide +kernel
theorem dX4_readQuest_178 : decode cX4_readQuest 178 = .ok (.return_, 1) := by decide +kernel
theorem dX4_readStep_0 : decode cX4_readStep 0 = .ok (.aload_n 1, 1) := by decide +kernel
theorem dX4_readStep_1 : decode cX4_readStep 1 = .ok (.getfield 173, 3) := by decide +kernel
theorem dX4_readStep_4 : decode cX4_readStep 4 = .ok (.istore_n 2, 1) := by decide +kernel
theorem dX4_readStep_5 : decode cX4_readStep 5 = .ok (.iload_n 2, 1) := by decide +kernel
theorem dX4_readStep_6 : decode cX4_readStep 6 = .ok (.bipush 6, 2) := by decide +kernel
theorem dX4_readStep_8 : decode cX4_readStep 8 = .ok (.if_icmp .lt 20, 3) := by decide +kernel
theorem dX4_readStep_11 : decode cX4_readStep 11 = .ok (.aload_n 0, 1) := by decide +kernel
theorem dX4_readStep_12 : decode cX4_readStep 12 = .ok (.getfield 12, 3) := by decide +kernel
theorem dX4_readStep_15 : decode cX4_readStep 15 = .ok (.bipush (-5), 2) := by decide +kernel
theorem dX4_readStep_17 : decode cX4_readStep 17 = .ok (.aload_n 0, 1) := by decide +kernel
theorem dX4_readStep_18 : decode cX4_readStep 18 = .ok (.getfield 12, 3) := by decide +kernel
theorem dX4_readStep_21 : decode cX4_readStep 21 = .ok (.invokevirtual 99, 3) := by decide +kernel
theorem dX4_readStep_24 : decode cX4_readStep 24 = .ok (.invokevirtual 103, 3) := by decide +kernel
theorem dX4_readStep_27 : decode cX4_readStep 27 = .ok (.return_, 1) := by decide +kernel
theorem dX4_readStep_28 : decode cX4_readStep 28 = .ok (.aload_n 0, 1) := by decide +kernel
theorem dX4_readStep_29 : decode cX4_readStep 29 = .ok (.getfield 12, 3) := by decide +kernel
theorem dX4_readStep_32 : decode cX4_readStep 32 = .ok (.getstatic 163, 3) := by decide +kernel
theorem dX4_readStep_35 : decode cX4_readStep 35 = .ok (.invokevirtual 60, 3) := by decide +kernel
theorem dX4_readStep_38 : decode cX4_readStep 38 = .ok (.aload_n 1, 1) := by decide +kernel
theorem dX4_readStep_39 : decode cX4_readStep 39 = .ok (.getfield 184, 3) := by decide +kernel
theorem dX4_readStep_42 : decode cX4_readStep 42 = .ok (.iload_n 2, 1) := by decide +kernel
theorem dX4_readStep_43 : decode cX4_readStep 43 = .ok (.aload_n 0, 1) := by decide +kernel
theorem dX4_readStep_44 : decode cX4_readStep 44 = .ok (.getfield 12, 3) := by decide +kernel
theorem dX4_readStep_47 : decode cX4_readStep 47 = .ok (.iconst 0, 1) := by decide +kernel
theorem dX4_readStep_48 : decode cX4_readStep 48 = .ok (.bipush 100, 2) := by decide +kernel
theorem dX4_readStep_50 : decode cX4_readStep 50 = .ok (.invokevirtual 125, 3) := by decide +kernel
theorem dX4_readStep_53 : decode cX4_readStep 53 = .ok (.invokestatic 133, 3) := by decide +kernel
theorem dX4_readStep_56 : decode cX4_readStep 56 = .ok (.aload_n 1, 1) := by decide +kernel
theorem dX4_readStep_57 : decode cX4_readStep 57 = .ok (.getfield 187, 3) := by decide +kernel
theorem dX4_readStep_60 : decode cX4_readStep 60 = .ok (.iload_n 2, 1) := by decide +kernel
theorem dX4_readStep_61 : decode cX4_readStep 61 = .ok (.aload_n 0, 1) := by decide +kernel
theorem dX4_readStep_62 : decode cX4_readStep 62 = .ok (.getfield 12, 3) := by decide +kernel
theorem dX4_readStep_65 : decode cX4_readStep 65 = .ok (.iconst 1, 1) := by decide +kernel
theorem dX4_readStep_66 : decode cX4_readStep 66 = .ok (.bipush 9, 2) := by decide +kernel
theorem dX4_readStep_68 : decode cX4_readStep 68 = .ok (.invokevirtual 125, 3) := by decide +kernel
theorem dX4_readStep_71 : decode cX4_readStep 71 = .ok (.invokestatic 133, 3) := by decide +kernel
theorem dX4_readStep_74 : decode cX4_readStep 74 = .ok (.iconst 0, 1) := by decide +kernel
theorem dX4_readStep_75 : decode cX4_readStep 75 = .ok (.istore_n 3, 1) := by decide +kernel
theorem dX4_readStep_76 : decode cX4_readStep 76 = .ok (.iload_n 3, 1) := by decide +kernel
theorem dX4_readStep_77 : decode cX4_readStep 77 = .ok (.sipush 800, 3) := by decide +kernel
theorem dX4_readStep_80 : decode cX4_readStep 80 = .ok (.if_icmp .ge 28, 3) := by decide +kernel
theorem dX4_readStep_83 : decode cX4_readStep 83 = .ok (.aload_n 0, 1) := by decide +kernel
theorem dX4_readStep_84 : decode cX4_readStep 84 = .ok (.getfield 12, 3) := by decide +kernel
theorem dX4_readStep_87 : decode cX4_readStep 87 = .ok (.invokevirtual 71, 3) := by decide +kernel
theorem dX4_readStep_90 : decode cX4_readStep 90 = .ok (.invokevirtual 190, 3) := by decide +kernel
theorem dX4_readStep_93 : decode cX4_readStep 93 = .ok (.ifCond .eq 15, 3) := by decide +kernel
theorem dX4_readStep_96 : decode cX4_readStep 96 = .ok (.aload_n 0, 1) := by decide +kernel
theorem dX4_readStep_97 : decode cX4_readStep 97 = .ok (.aload_n 1, 1) := by decide +kernel
theorem dX4_readStep_98 : decode cX4_readStep 98 = .ok (.iload_n 2, 1) := by decide +kernel
theorem dX4_readStep_99 : decode cX4_readStep 99 = .ok (.invokevirtual 193, 3) := by decide +kernel
theorem dX4_readStep_102 : decode cX4_readStep 102 = .ok (.iinc 3 1, 3) := by decide +kernel
theorem dX4_readStep_105 : decode cX4_readStep 105 = .ok (.goto (-29), 3) := by decide +kernel
theorem dX4_readStep_108 : decode cX4_readStep 108 = .ok (.aload_n 0, 1) := by decide +kernel
theorem dX4_readStep_109 : decode cX4_readStep 109 = .ok (.getfield 12, 3) := by decide +kernel
theorem dX4_readStep_112 : decode cX4_readStep 112 = .ok (.getstatic 64, 3) := by decide +kernel
theorem dX4_readStep_115 : decode cX4_readStep 115 = .ok (.invokevirtual 60, 3) := by decide +kernel
theorem dX4_readStep_118 : decode cX4_readStep 118 = .ok (.aload_n 1, 1) := by decide +kernel
theorem dX4_readStep_119 : decode cX4_readStep 119 = .ok (.dup, 1) := by decide +kernel
theorem dX4_readStep_120 : decode cX4_readStep 120 = .ok (.getfield 173, 3) := by decide +kernel
theorem dX4_readStep_123 : decode cX4_readStep 123 = .ok (.iconst 1, 1) := by decide +kernel
theorem dX4_readStep_124 : decode cX4_readStep 124 = .ok (.iadd, 1) := by decide +kernel
theorem dX4_readStep_125 : decode cX4_readStep 125 = .ok (.putfield 173, 3) := by decide +kernel
theorem dX4_readStep_128 : decode cX4_readStep 128 = .ok (.return_, 1) := by decide +kernel
theorem dX4_readPart_0 : decode cX4_readPart 0 = .ok (.aload_n 0, 1) := by decide +kernel
theorem dX4_readPart_1 : decode cX4_readPart 1 = .ok (.getfield 12, 3) := by decide +kernel
theorem dX4_readPart_4 : decode cX4_readPart 4 = .ok (.invokevirtual 99, 3) := by decide +kernel
theorem dX4_readPart_7 : decode cX4_readPart 7 = .ok (.istore_n 3, 1) := by decide +kernel
theorem dX4_readPart_8 : decode cX4_readPart 8 = .ok (.aload_n 0, 1) := by decide +kernel
theorem dX4_readPart_9 : decode cX4_readPart 9 = .ok (.getfield 12, 3) := by decide +kernel
theorem dX4_readPart_12 : decode cX4_readPart 12 = .ok (.getstatic 197, 3) := by decide +kernel
theorem dX4_readPart_15 : decode cX4_readPart 15 = .ok (.invokevirtual 200, 3) := by decide +kernel
theorem dX4_readPart_18 : decode cX4_readPart 18 = .ok (.ifCond .eq 15, 3) := by decide +kernel
theorem dX4_readPart_21 : decode cX4_readPart 21 = .ok (.aload_n 0, 1) := by decide +kernel
theorem dX4_readPart_22 : decode cX4_readPart 22 = .ok (.aload_n 1, 1) := by decide +kernel
theorem dX4_readPart_23 : decode cX4_readPart 23 = .ok (.getfield 204, 3) := by decide +kernel
theorem dX4_readPart_26 : decode cX4_readPart 26 = .ok (.iload_n 2, 1) := by decide +kernel
theorem dX4_readPart_27 : decode cX4_readPart 27 = .ok (.invokevirtual 207, 3) := by decide +kernel
theorem dX4_readPart_30 : decode cX4_readPart 30 = .ok (.goto 119, 3) := by decide +kernel
theorem dX4_readPart_33 : decode cX4_readPart 33 = .ok (.aload_n 0, 1) := by decide +kernel
theorem dX4_readPart_34 : decode cX4_readPart 34 = .ok (.getfield 12, 3) := by decide +kernel
theorem dX4_readPart_37 : decode cX4_readPart 37 = .ok (.getstatic 210, 3) := by decide +kernel
theorem dX4_readPart_40 : decode cX4_readPart 40 = .ok (.invokevirtual 200, 3) := by decide +kernel
theorem dX4_readPart_43 : decode cX4_readPart 43 = .ok (.ifCond .eq 15, 3) := by decide +kernel
theorem dX4_readPart_46 : decode cX4_readPart 46 = .ok (.aload_n 0, 1) := by decide +kernel
theorem dX4_readPart_47 : decode cX4_readPart 47 = .ok (.aload_n 1, 1) := by decide +kernel
theorem dX4_readPart_48 : decode cX4_readPart 48 = .ok (.getfield 213, 3) := by decide +kernel
theorem dX4_readPart_51 : decode cX4_readPart 51 = .ok (.iload_n 2, 1) := by decide +kernel
theorem dX4_readPart_52 : decode cX4_readPart 52 = .ok (.invokevirtual 207, 3) := by decide +kernel
theorem dX4_readPart_55 : decode cX4_readPart 55 = .ok (.goto 94, 3) := by decide +kernel
theorem dX4_readPart_58 : decode cX4_readPart 58 = .ok (.aload_n 0, 1) := by decide +kernel
theorem dX4_readPart_59 : decode cX4_readPart 59 = .ok (.getfield 12, 3) := by decide +kernel
theorem dX4_readPart_62 : decode cX4_readPart 62 = .ok (.getstatic 216, 3) := by decide +kernel
theorem dX4_readPart_65 : decode cX4_readPart 65 = .ok (.invokevirtual 200, 3) := by decide +kernel
theorem dX4_readPart_68 : decode cX4_readPart 68 = .ok (.ifCond .eq 15, 3) := by decide +kernel
theorem dX4_readPart_71 : decode cX4_readPart 71 = .ok (.aload_n 0, 1) := by decide +kernel
theorem dX4_readPart_72 : decode cX4_readPart 72 = .ok (.aload_n 1, 1) := by decide +kernel
theorem dX4_readPart_73 : decode cX4_readPart 73 = .ok (.getfield 219, 3) := by decide +kernel
theorem dX4_readPart_76 : decode cX4_readPart 76 = .ok (.iload_n 2, 1) := by decide +kernel
theorem dX4_readPart_77 : decode cX4_readPart 77 = .ok (.invokevirtual 207, 3) := by decide +kernel
theorem dX4_readPart_80 : decode cX4_readPart 80 = .ok (.goto 69, 3) := by decide +kernel
theorem dX4_readPart_83 : decode cX4_readPart 83 = .ok (.aload_n 0, 1) := by decide +kernel
theorem dX4_readPart_84 : decode cX4_readPart 84 = .ok (.getfield 12, 3) := by decide +kernel
theorem dX4_readPart_87 : decode cX4_readPart 87 = .ok (.getstatic 222, 3) := by decide +kernel
theorem dX4_readPart_90 : decode cX4_readPart 90 = .ok (.invokevirtual 200, 3) := by decide +kernel
theorem dX4_readPart_93 : decode cX4_readPart 93 = .ok (.ifCond .eq 15, 3) := by decide +kernel
theorem dX4_readPart_96 : decode cX4_readPart 96 = .ok (.aload_n 0, 1) := by decide +kernel
theorem dX4_readPart_97 : decode cX4_readPart 97 = .ok (.aload_n 1, 1) := by decide +kernel
theorem dX4_readPart_98 : decode cX4_readPart 98 = .ok (.getfield 225, 3) := by decide +kernel
theorem dX4_readPart_101 : decode cX4_readPart 101 = .ok (.iload_n 2, 1) := by decide +kernel
theorem dX4_readPart_102 : decode cX4_readPart 102 = .ok (.invokevirtual 227, 3) := by decide +kernel
theorem dX4_readPart_105 : decode cX4_readPart 105 = .ok (.goto 44, 3) := by decide +kernel
theorem dX4_readPart_108 : decode cX4_readPart 108 = .ok (.aload_n 0, 1) := by decide +kernel
theorem dX4_readPart_109 : decode cX4_readPart 109 = .ok (.getfield 12, 3) := by decide +kernel
theorem dX4_readPart_112 : decode cX4_readPart 112 = .ok (.getstatic 230, 3) := by decide +kernel
theorem dX4_readPart_115 : decode cX4_readPart 115 = .ok (.invokevirtual 60, 3) := by decide +kernel
theorem dX4_readPart_118 : decode cX4_readPart 118 = .ok (.aload_n 1, 1) := by decide +kernel
theorem dX4_readPart_119 : decode cX4_readPart 119 = .ok (.getfield 233, 3) := by decide +kernel
theorem dX4_readPart_122 : decode cX4_readPart 122 = .ok (.iload_n 2, 1) := by decide +kernel
theorem dX4_readPart_123 : decode cX4_readPart 123 = .ok (.invokestatic 236, 3) := by decide +kernel
theorem dX4_readPart_126 : decode cX4_readPart 126 = .ok (.iconst 1, 1) := by decide +kernel
theorem dX4_readPart_127 : decode cX4_readPart 127 = .ok (.if_icmp .ne 13, 3) := by decide +kernel
theorem dX4_readPart_130 : decode cX4_readPart 130 = .ok (.aload_n 0, 1) := by decide +kernel
theorem dX4_readPart_131 : decode cX4_readPart 131 = .ok (.getfield 12, 3) := by decide +kernel
theorem dX4_readPart_134 : decode cX4_readPart 134 = .ok (.bipush (-2), 2) := by decide +kernel
theorem dX4_readPart_136 : decode cX4_readPart 136 = .ok (.iload_n 3, 1) := by decide +kernel
theorem dX4_readPart_137 : decode cX4_readPart 137 = .ok (.invokevirtual 103, 3) := by decide +kernel
theorem dX4_readPart_140 : decode cX4_readPart 140 = .ok (.aload_n 1, 1) := by decide +kernel
theorem dX4_readPart_141 : decode cX4_readPart 141 = .ok (.getfield 233, 3) := by decide +kernel
theorem dX4_readPart_144 : decode cX4_readPart 144 = .ok (.iload_n 2, 1) := by decide +kernel
theorem dX4_readPart_145 : decode cX4_readPart 145 = .ok (.iconst 1, 1) := by decide +kernel
theorem dX4_readPart_146 : decode cX4_readPart 146 = .ok (.invokestatic 133, 3) := by decide +kernel
theorem dX4_readPart_149 : decode cX4_readPart 149 = .ok (.return_, 1) := by decide +kernel
theorem dX4_readAmounts_0 : decode cX4_readAmounts 0 = .ok (.iconst 0, 1) := by decide +kernel
theorem dX4_readAmounts_1 : decode cX4_readAmounts 1 = .ok (.istore_n 3, 1) := by decide +kernel
theorem dX4_readAmounts_2 : decode cX4_readAmounts 2 = .ok (.iload_n 3, 1) := by decide +kernel
theorem dX4_readAmounts_3 : decode cX4_readAmounts 3 = .ok (.sipush 800, 3) := by decide +kernel
theorem dX4_readAmounts_6 : decode cX4_readAmounts 6 = .ok (.if_icmp .ge 88, 3) := by decide +kernel
theorem dX4_readAmounts_9 : decode cX4_readAmounts 9 = .ok (.iload_n 3, 1) := by decide +kernel
theorem dX4_readAmounts_10 : decode cX4_readAmounts 10 = .ok (.ifCond .eq 16, 3) := by decide +kernel
theorem dX4_readAmounts_13 : decode cX4_readAmounts 13 = .ok (.aload_n 0, 1) := by decide +kernel
theorem dX4_readAmounts_14 : decode cX4_readAmounts 14 = .ok (.getfield 12, 3) := by decide +kernel
theorem dX4_readAmounts_17 : decode cX4_readAmounts 17 = .ok (.invokevirtual 71, 3) := by decide +kernel
theorem dX4_readAmounts_20 : decode cX4_readAmounts 20 = .ok (.getstatic 122, 3) := by decide +kernel
theorem dX4_readAmounts_23 : decode cX4_readAmounts 23 = .ok (.if_acmp .ne 71, 3) := by decide +kernel
theorem dX4_readAmounts_26 : decode cX4_readAmounts 26 = .ok (.aload_n 0, 1) := by decide +kernel
theorem dX4_readAmounts_27 : decode cX4_readAmounts 27 = .ok (.getfield 12, 3) := by decide +kernel
theorem dX4_readAmounts_30 : decode cX4_readAmounts 30 = .ok (.invokevirtual 99, 3) := by decide +kernel
theorem dX4_readAmounts_33 : decode cX4_readAmounts 33 = .ok (.istore 4, 2) := by decide +kernel
theorem dX4_readAmounts_35 : decode cX4_readAmounts 35 = .ok (.iload_n 2, 1) := by decide +kernel
theorem dX4_readAmounts_36 : decode cX4_readAmounts 36 = .ok (.bipush 8, 2) := by decide +kernel
theorem dX4_readAmounts_38 : decode cX4_readAmounts 38 = .ok (.imul, 1) := by decide +kernel
theorem dX4_readAmounts_39 : decode cX4_readAmounts 39 = .ok (.aload_n 0, 1) := by decide +kernel
theorem dX4_readAmounts_40 : decode cX4_readAmounts 40 = .ok (.getfield 12, 3) := by decide +kernel
theorem dX4_readAmounts_43 : decode cX4_readAmounts 43 = .ok (.iconst 0, 1) := by decide +kernel
theorem dX4_readAmounts_44 : decode cX4_readAmounts 44 = .ok (.bipush 7, 2) := by decide +kernel
theorem dX4_readAmounts_46 : decode cX4_readAmounts 46 = .ok (.invokevirtual 125, 3) := by decide +kernel
theorem dX4_readAmounts_49 : decode cX4_readAmounts 49 = .ok (.iadd, 1) := by decide +kernel
theorem dX4_readAmounts_50 : decode cX4_readAmounts 50 = .ok (.istore 5, 2) := by decide +kernel
theorem dX4_readAmounts_52 : decode cX4_readAmounts 52 = .ok (.aload_n 1, 1) := by decide +kernel
theorem dX4_readAmounts_53 : decode cX4_readAmounts 53 = .ok (.iload 5, 2) := by decide +kernel
theorem dX4_readAmounts_55 : decode cX4_readAmounts 55 = .ok (.invokestatic 236, 3) := by decide +kernel
theorem dX4_readAmounts_58 : decode cX4_readAmounts 58 = .ok (.ifCond .le 14, 3) := by decide +kernel
theorem dX4_readAmounts_61 : decode cX4_readAmounts 61 = .ok (.aload_n 0, 1) := by decide +kernel
theorem dX4_readAmounts_62 : decode cX4_readAmounts 62 = .ok (.getfield 12, 3) := by decide +kernel
theorem dX4_readAmounts_65 : decode cX4_readAmounts 65 = .ok (.bipush (-4), 2) := by decide +kernel
theorem dX4_readAmounts_67 : decode cX4_readAmounts 67 = .ok (.iload 4, 2) := by decide +kernel
theorem dX4_readAmounts_69 : decode cX4_readAmounts 69 = .ok (.invokevirtual 103, 3) := by decide +kernel
theorem dX4_readAmounts_72 : decode cX4_readAmounts 72 = .ok (.aload_n 1, 1) := by decide +kernel
theorem dX4_readAmounts_73 : decode cX4_readAmounts 73 = .ok (.iload 5, 2) := by decide +kernel
theorem dX4_readAmounts_75 : decode cX4_readAmounts 75 = .ok (.aload_n 0, 1) := by decide +kernel
theorem dX4_readAmounts_76 : decode cX4_readAmounts 76 = .ok (.getfield 12, 3) := by decide +kernel
theorem dX4_readAmounts_79 : decode cX4_readAmounts 79 = .ok (.iconst 1, 1) := by decide +kernel
theorem dX4_readAmounts_80 : decode cX4_readAmounts 80 = .ok (.bipush 99, 2) := by decide +kernel
theorem dX4_readAmounts_82 : decode cX4_readAmounts 82 = .ok (.invokevirtual 125, 3) := by decide +kernel
theorem dX4_readAmounts_85 : decode cX4_readAmounts 85 = .ok (.invokestatic 133, 3) := by decide +kernel
theorem dX4_readAmounts_88 : decode cX4_readAmounts 88 = .ok (.iinc 3 1, 3) := by decide +kernel
theorem dX4_readAmounts_91 : decode cX4_readAmounts 91 = .ok (.goto (-89), 3) := by decide +kernel
theorem dX4_readAmounts_94 : decode cX4_readAmounts 94 = .ok (.return_, 1) := by decide +kernel
theorem dX4_readAhead_0 : decode cX4_readAhead 0 = .ok (.iconst 0, 1) := by decide +kernel
theorem dX4_readAhead_1 : decode cX4_readAhead 1 = .ok (.istore_n 3, 1) := by decide +kernel
theorem dX4_readAhead_2 : decode cX4_readAhead 2 = .ok (.iload_n 3, 1) := by decide +kernel
theorem dX4_readAhead_3 : decode cX4_readAhead 3 = .ok (.sipush 800, 3) := by decide +kernel
theorem dX4_readAhead_6 : decode cX4_readAhead 6 = .ok (.if_icmp .ge 87, 3) := by decide +kernel
theorem dX4_readAhead_9 : decode cX4_readAhead 9 = .ok (.iload_n 3, 1) := by decide +kernel
theorem dX4_readAhead_10 : decode cX4_readAhead 10 = .ok (.ifCond .eq 16, 3) := by decide +kernel
theorem dX4_readAhead_13 : decode cX4_readAhead 13 = .ok (.aload_n 0, 1) := by decide +kernel
theorem dX4_readAhead_14 : decode cX4_readAhead 14 = .ok (.getfield 12, 3) := by decide +kernel
theorem dX4_readAhead_17 : decode cX4_readAhead 17 = .ok (.invokevirtual 71, 3) := by decide +kernel
theorem dX4_readAhead_20 : decode cX4_readAhead 20 = .ok (.getstatic 122, 3) := by decide +kernel
theorem dX4_readAhead_23 : decode cX4_readAhead 23 = .ok (.if_acmp .ne 70, 3) := by decide +kernel
theorem dX4_readAhead_26 : decode cX4_readAhead 26 = .ok (.aload_n 0, 1) := by decide +kernel
theorem dX4_readAhead_27 : decode cX4_readAhead 27 = .ok (.getfield 12, 3) := by decide +kernel
theorem dX4_readAhead_30 : decode cX4_readAhead 30 = .ok (.invokevirtual 99, 3) := by decide +kernel
theorem dX4_readAhead_33 : decode cX4_readAhead 33 = .ok (.istore 4, 2) := by decide +kernel
theorem dX4_readAhead_35 : decode cX4_readAhead 35 = .ok (.aload_n 0, 1) := by decide +kernel
theorem dX4_readAhead_36 : decode cX4_readAhead 36 = .ok (.getfield 12, 3) := by decide +kernel
theorem dX4_readAhead_39 : decode cX4_readAhead 39 = .ok (.iconst 0, 1) := by decide +kernel
theorem dX4_readAhead_40 : decode cX4_readAhead 40 = .ok (.iload_n 2, 1) := by decide +kernel
theorem dX4_readAhead_41 : decode cX4_readAhead 41 = .ok (.iconst 1, 1) := by decide +kernel
theorem dX4_readAhead_42 : decode cX4_readAhead 42 = .ok (.isub, 1) := by decide +kernel
theorem dX4_readAhead_43 : decode cX4_readAhead 43 = .ok (.invokevirtual 125, 3) := by decide +kernel
theorem dX4_readAhead_46 : decode cX4_readAhead 46 = .ok (.istore 5, 2) := by decide +kernel
theorem dX4_readAhead_48 : decode cX4_readAhead 48 = .ok (.aload_n 1, 1) := by decide +kernel
theorem dX4_readAhead_49 : decode cX4_readAhead 49 = .ok (.iload_n 2, 1) := by decide +kernel
theorem dX4_readAhead_50 : decode cX4_readAhead 50 = .ok (.invokestatic 236, 3) := by decide +kernel
theorem dX4_readAhead_53 : decode cX4_readAhead 53 = .ok (.iload 5, 2) := by decide +kernel
theorem dX4_readAhead_55 : decode cX4_readAhead 55 = .ok (.iushr, 1) := by decide +kernel
theorem dX4_readAhead_56 : decode cX4_readAhead 56 = .ok (.iconst 1, 1) := by decide +kernel
theorem dX4_readAhead_57 : decode cX4_readAhead 57 = .ok (.iand, 1) := by decide +kernel
theorem dX4_readAhead_58 : decode cX4_readAhead 58 = .ok (.ifCond .eq 14, 3) := by decide +kernel
theorem dX4_readAhead_61 : decode cX4_readAhead 61 = .ok (.aload_n 0, 1) := by decide +kernel
theorem dX4_readAhead_62 : decode cX4_readAhead 62 = .ok (.getfield 12, 3) := by decide +kernel
theorem dX4_readAhead_65 : decode cX4_readAhead 65 = .ok (.bipush (-4), 2) := by decide +kernel
theorem dX4_readAhead_67 : decode cX4_readAhead 67 = .ok (.iload 4, 2) := by decide +kernel
theorem dX4_readAhead_69 : decode cX4_readAhead 69 = .ok (.invokevirtual 103, 3) := by decide +kernel
theorem dX4_readAhead_72 : decode cX4_readAhead 72 = .ok (.aload_n 1, 1) := by decide +kernel
theorem dX4_readAhead_73 : decode cX4_readAhead 73 = .ok (.iload_n 2, 1) := by decide +kernel
theorem dX4_readAhead_74 : decode cX4_readAhead 74 = .ok (.aload_n 1, 1) := by decide +kernel
theorem dX4_readAhead_75 : decode cX4_readAhead 75 = .ok (.iload_n 2, 1) := by decide +kernel
theorem dX4_readAhead_76 : decode cX4_readAhead 76 = .ok (.invokestatic 236, 3) := by decide +kernel
theorem dX4_readAhead_79 : decode cX4_readAhead 79 = .ok (.iconst 1, 1) := by decide +kernel
theorem dX4_readAhead_80 : decode cX4_readAhead 80 = .ok (.iload 5, 2) := by decide +kernel
theorem dX4_readAhead_82 : decode cX4_readAhead 82 = .ok (.ishl, 1) := by decide +kernel
theorem dX4_readAhead_83 : decode cX4_readAhead 83 = .ok (.ior, 1) := by decide +kernel
theorem dX4_readAhead_84 : decode cX4_readAhead 84 = .ok (.invokestatic 133, 3) := by decide +kernel
theorem dX4_readAhead_87 : decode cX4_readAhead 87 = .ok (.iinc 3 1, 3) := by decide +kernel
theorem dX4_readAhead_90 : decode cX4_readAhead 90 = .ok (.goto (-88), 3) := by decide +kernel
theorem dX4_readAhead_93 : decode cX4_readAhead 93 = .ok (.return_, 1) := by decide +kernel
theorem dX5_stands_0 : decode cX5_stands 0 = .ok (.aload_n 0, 1) := by decide +kernel
theorem dX5_stands_1 : decode cX5_stands 1 = .ok (.getfield 121, 3) := by decide +kernel
theorem dX5_stands_4 : decode cX5_stands 4 = .ok (.invokevirtual 129, 3) := by decide +kernel
theorem dX5_stands_7 : decode cX5_stands 7 = .ok (.iload_n 3, 1) := by decide +kernel
theorem dX5_stands_8 : decode cX5_stands 8 = .ok (.iload_n 2, 1) := by decide +kernel
theorem dX5_stands_9 : decode cX5_stands 9 = .ok (.isub, 1) := by decide +kernel
theorem dX5_stands_10 : decode cX5_stands 10 = .ok (.if_icmp .eq 5, 3) := by decide +kernel
theorem dX5_stands_13 : decode cX5_stands 13 = .ok (.iconst 0, 1) := by decide +kernel
theorem dX5_stands_14 : decode cX5_stands 14 = .ok (.ireturn, 1) := by decide +kernel
theorem dX5_stands_15 : decode cX5_stands 15 = .ok (.iconst 0, 1) := by decide +kernel
theorem dX5_stands_16 : decode cX5_stands 16 = .ok (.istore 4, 2) := by decide +kernel
theorem dX5_stands_18 : decode cX5_stands 18 = .ok (.iload 4, 2) := by decide +kernel
theorem dX5_stands_20 : decode cX5_stands 20 = .ok (.aload_n 0, 1) := by decide +kernel
theorem dX5_stands_21 : decode cX5_stands 21 = .ok (.getfield 121, 3) := by decide +kernel
theorem dX5_stands_24 : decode cX5_stands 24 = .ok (.invokevirtual 129, 3) := by decide +kernel
theorem dX5_stands_27 : decode cX5_stands 27 = .ok (.if_icmp .ge 31, 3) := by decide +kernel
theorem dX5_stands_30 : decode cX5_stands 30 = .ok (.aload_n 0, 1) := by decide +kernel
theorem dX5_stands_31 : decode cX5_stands 31 = .ok (.getfield 121, 3) := by decide +kernel
theorem dX5_stands_34 : decode cX5_stands 34 = .ok (.iload 4, 2) := by decide +kernel
theorem dX5_stands_36 : decode cX5_stands 36 = .ok (.invokevirtual 135, 3) := by decide +kernel
theorem dX5_stands_39 : decode cX5_stands 39 = .ok (.aload_n 1, 1) := by decide +kernel
theorem dX5_stands_40 : decode cX5_stands 40 = .ok (.iload_n 2, 1) := by decide +kernel
theorem dX5_stands_41 : decode cX5_stands 41 = .ok (.iload 4, 2) := by decide +kernel
theorem dX5_stands_43 : decode cX5_stands 43 = .ok (.iadd, 1) := by decide +kernel
theorem dX5_stands_44 : decode cX5_stands 44 = .ok (.invokestatic 139, 3) := by decide +kernel
theorem dX5_stands_47 : decode cX5_stands 47 = .ok (.if_icmp .eq 5, 3) := by decide +kernel
theorem dX5_stands_50 : decode cX5_stands 50 = .ok (.iconst 0, 1) := by decide +kernel
theorem dX5_stands_51 : decode cX5_stands 51 = .ok (.ireturn, 1) := by decide +kernel
theorem dX5_stands_52 : decode cX5_stands 52 = .ok (.iinc 4 1, 3) := by decide +kernel
theorem dX5_stands_55 : decode cX5_stands 55 = .ok (.goto (-37), 3) := by decide +kernel
theorem dX5_stands_58 : decode cX5_stands 58 = .ok (.iconst 1, 1) := by decide +kernel
theorem dX5_stands_59 : decode cX5_stands 59 = .ok (.ireturn, 1) := by decide +kernel
theorem dX5_beginsPart_0 : decode cX5_beginsPart 0 = .ok (.aload_n 0, 1) := by decide +kernel
theorem dX5_beginsPart_1 : decode cX5_beginsPart 1 = .ok (.getstatic 39, 3) := by decide +kernel
theorem dX5_beginsPart_4 : decode cX5_beginsPart 4 = .ok (.if_acmp .eq 31, 3) := by decide +kernel
theorem dX5_beginsPart_7 : decode cX5_beginsPart 7 = .ok (.aload_n 0, 1) := by decide +kernel
theorem dX5_beginsPart_8 : decode cX5_beginsPart 8 = .ok (.getstatic 42, 3) := by decide +kernel
theorem dX5_beginsPart_11 : decode cX5_beginsPart 11 = .ok (.if_acmp .eq 24, 3) := by decide +kernel
theorem dX5_beginsPart_14 : decode cX5_beginsPart 14 = .ok (.aload_n 0, 1) := by decide +kernel
theorem dX5_beginsPart_15 : decode cX5_beginsPart 15 = .ok (.getstatic 45, 3) := by decide +kernel
theorem dX5_beginsPart_18 : decode cX5_beginsPart 18 = .ok (.if_acmp .eq 17, 3) := by decide +kernel
theorem dX5_beginsPart_21 : decode cX5_beginsPart 21 = .ok (.aload_n 0, 1) := by decide +kernel
theorem dX5_beginsPart_22 : decode cX5_beginsPart 22 = .ok (.getstatic 48, 3) := by decide +kernel
theorem dX5_beginsPart_25 : decode cX5_beginsPart 25 = .ok (.if_acmp .eq 10, 3) := by decide +kernel
theorem dX5_beginsPart_28 : decode cX5_beginsPart 28 = .ok (.aload_n 0, 1) := by decide +kernel
theorem dX5_beginsPart_29 : decode cX5_beginsPart 29 = .ok (.getstatic 51, 3) := by decide +kernel
theorem dX5_beginsPart_32 : decode cX5_beginsPart 32 = .ok (.if_acmp .ne 7, 3) := by decide +kernel
theorem dX5_beginsPart_35 : decode cX5_beginsPart 35 = .ok (.iconst 1, 1) := by decide +kernel
theorem dX5_beginsPart_36 : decode cX5_beginsPart 36 = .ok (.goto 4, 3) := by decide +kernel
theorem dX5_beginsPart_39 : decode cX5_beginsPart 39 = .ok (.iconst 0, 1) := by decide +kernel
theorem dX5_beginsPart_40 : decode cX5_beginsPart 40 = .ok (.ireturn, 1) := by decide +kernel
theorem dX5_isVariable_0 : decode cX5_isVariable 0 = .ok (.aload_n 0, 1) := by decide +kernel
theorem dX5_isVariable_1 : decode cX5_isVariable 1 = .ok (.getfield 125, 3) := by decide +kernel
theorem dX5_isVariable_4 : decode cX5_isVariable 4 = .ok (.ifCond .ge 16, 3) := by decide +kernel
theorem dX5_isVariable_7 : decode cX5_isVariable 7 = .ok (.aload_n 0, 1) := by decide +kernel
theorem dX5_isVariable_8 : decode cX5_isVariable 8 = .ok (.getfield 125, 3) := by decide +kernel
theorem dX5_isVariable_11 : decode cX5_isVariable 11 = .ok (.bipush (-6), 2) := by decide +kernel
theorem dX5_isVariable_13 : decode cX5_isVariable 13 = .ok (.if_icmp .lt 7, 3) := by decide +kernel
theorem dX5_isVariable_16 : decode cX5_isVariable 16 = .ok (.iconst 1, 1) := by decide +kernel
theorem dX5_isVariable_17 : decode cX5_isVariable 17 = .ok (.goto 4, 3) := by decide +kernel
theorem dX5_isVariable_20 : decode cX5_isVariable 20 = .ok (.iconst 0, 1) := by decide +kernel
theorem dX5_isVariable_21 : decode cX5_isVariable 21 = .ok (.ireturn, 1) := by decide +kernel
theorem dX6_init_0 : decode cX6_init 0 = .ok (.aload_n 0, 1) := by decide +kernel
theorem dX6_init_1 : decode cX6_init 1 = .ok (.invokespecial 3, 3) := by decide +kernel
theorem dX6_init_4 : decode cX6_init 4 = .ok (.aload_n 0, 1) := by decide +kernel
theorem dX6_init_5 : decode cX6_init 5 = .ok (.sipush 801, 3) := by decide +kernel
theorem dX6_init_8 : decode cX6_init 8 = .ok (.anewarray 9, 3) := by decide +kernel
theorem dX6_init_11 : decode cX6_init 11 = .ok (.putfield 11, 3) := by decide +kernel
theorem dX6_init_14 : decode cX6_init 14 = .ok (.aload_n 0, 1) := by decide +kernel
theorem dX6_init_15 : decode cX6_init 15 = .ok (.sipush 801, 3) := by decide +kernel
theorem dX6_init_18 : decode cX6_init 18 = .ok (.newarray .int, 2) := by decide +kernel
theorem dX6_init_20 : decode cX6_init 20 = .ok (.putfield 17, 3) := by decide +kernel
theorem dX6_init_23 : decode cX6_init 23 = .ok (.aload_n 0, 1) := by decide +kernel
theorem dX6_init_24 : decode cX6_init 24 = .ok (.sipush 801, 3) := by decide +kernel
theorem dX6_init_27 : decode cX6_init 27 = .ok (.newarray .int, 2) := by decide +kernel
theorem dX6_init_29 : decode cX6_init 29 = .ok (.putfield 21, 3) := by decide +kernel
theorem dX6_init_32 : decode cX6_init 32 = .ok (.aload_n 0, 1) := by decide +kernel
theorem dX6_init_33 : decode cX6_init 33 = .ok (.iconst 0, 1) := by decide +kernel
theorem dX6_init_34 : decode cX6_init 34 = .ok (.putfield 24, 3) := by decide +kernel
theorem dX6_init_37 : decode cX6_init 37 = .ok (.aload_n 0, 1) := by decide +kernel
theorem dX6_init_38 : decode cX6_init 38 = .ok (.iconst 0, 1) := by decide +kernel
theorem dX6_init_39 : decode cX6_init 39 = .ok (.putfield 28, 3) := by decide +kernel
theorem dX6_init_42 : decode cX6_init 42 = .ok (.aload_n 0, 1) := by decide +kernel
theorem dX6_init_43 : decode cX6_init 43 = .ok (.iconst 0, 1) := by decide +kernel
theorem dX6_init_44 : decode cX6_init 44 = .ok (.putfield 31, 3) := by decide +kernel
theorem dX6_init_47 : decode cX6_init 47 = .ok (.aload_n 0, 1) := by decide +kernel
theorem dX6_init_48 : decode cX6_init 48 = .ok (.iconst (-1), 1) := by decide +kernel
theorem dX6_init_49 : decode cX6_init 49 = .ok (.putfield 34, 3) := by decide +kernel
theorem dX6_init_52 : decode cX6_init 52 = .ok (.return_, 1) := by decide +kernel
theorem dX6_scan_0 : decode cX6_scan 0 = .ok (.aload_n 0, 1) := by decide +kernel
theorem dX6_scan_1 : decode cX6_scan 1 = .ok (.iconst 0, 1) := by decide +kernel
theorem dX6_scan_2 : decode cX6_scan 2 = .ok (.putfield 24, 3) := by decide +kernel
theorem dX6_scan_5 : decode cX6_scan 5 = .ok (.aload_n 0, 1) := by decide +kernel
theorem dX6_scan_6 : decode cX6_scan 6 = .ok (.iconst 0, 1) := by decide +kernel
theorem dX6_scan_7 : decode cX6_scan 7 = .ok (.putfield 28, 3) := by decide +kernel
theorem dX6_scan_10 : decode cX6_scan 10 = .ok (.aload_n 0, 1) := by decide +kernel
theorem dX6_scan_11 : decode cX6_scan 11 = .ok (.iconst 0, 1) := by decide +kernel
theorem dX6_scan_12 : decode cX6_scan 12 = .ok (.putfield 31, 3) := by decide +kernel
theorem dX6_scan_15 : decode cX6_scan 15 = .ok (.aload_n 0, 1) := by decide +kernel
theorem dX6_scan_16 : decode cX6_scan 16 = .ok (.iconst (-1), 1) := by decide +kernel
theorem dX6_scan_17 : decode cX6_scan 17 = .ok (.putfield 34, 3) := by decide +kernel
theorem dX6_scan_20 : decode cX6_scan 20 = .ok (.iconst 0, 1) := by decide +kernel
theorem dX6_scan_21 : decode cX6_scan 21 = .ok (.istore_n 3, 1) := by decide +kernel
theorem dX6_scan_22 : decode cX6_scan 22 = .ok (.iload_n 3, 1) := by decide +kernel
theorem dX6_scan_23 : decode cX6_scan 23 = .ok (.iload_n 2, 1) := by decide +kernel
theorem dX6_scan_24 : decode cX6_scan 24 = .ok (.if_icmp .ge 57, 3) := by decide +kernel
theorem dX6_scan_27 : decode cX6_scan 27 = .ok (.aload_n 1, 1) := by decide +kernel
theorem dX6_scan_28 : decode cX6_scan 28 = .ok (.iload_n 3, 1) := by decide +kernel
theorem dX6_scan_29 : decode cX6_scan 29 = .ok (.invokestatic 37, 3) := by decide +kernel
theorem dX6_scan_32 : decode cX6_scan 32 = .ok (.invokestatic 41, 3) := by decide +kernel
theorem dX6_scan_35 : decode cX6_scan 35 = .ok (.istore 4, 2) := by decide +kernel
theorem dX6_scan_37 : decode cX6_scan 37 = .ok (.iload 4, 2) := by decide +kernel
theorem dX6_scan_39 : decode cX6_scan 39 = .ok (.ifCond .eq 36, 3) := by decide +kernel
theorem dX6_scan_42 : decode cX6_scan 42 = .ok (.iload_n 3, 1) := by decide +kernel
theorem dX6_scan_43 : decode cX6_scan 43 = .ok (.ifCond .le 18, 3) := by decide +kernel
theorem dX6_scan_46 : decode cX6_scan 46 = .ok (.iload 4, 2) := by decide +kernel
theorem dX6_scan_48 : decode cX6_scan 48 = .ok (.aload_n 1, 1) := by decide +kernel
theorem dX6_scan_49 : decode cX6_scan 49 = .ok (.iload_n 3, 1) := by decide +kernel
theorem dX6_scan_50 : decode cX6_scan 50 = .ok (.iconst 1, 1) := by decide +kernel
theorem dX6_scan_51 : decode cX6_scan 51 = .ok (.isub, 1) := by decide +kernel
theorem dX6_scan_52 : decode cX6_scan 52 = .ok (.invokestatic 37, 3) := by decide +kernel
theorem dX6_scan_55 : decode cX6_scan 55 = .ok (.invokestatic 45, 3) := by decide +kernel
theorem dX6_scan_58 : decode cX6_scan 58 = .ok (.ifCond .ne 17, 3) := by decide +kernel
theorem dX6_scan_61 : decode cX6_scan 61 = .ok (.aload_n 0, 1) := by decide +kernel
theorem dX6_scan_62 : decode cX6_scan 62 = .ok (.aload_n 1, 1) := by decide +kernel
theorem dX6_scan_63 : decode cX6_scan 63 = .ok (.iload_n 3, 1) := by decide +kernel
theorem dX6_scan_64 : decode cX6_scan 64 = .ok (.aload_n 1, 1) := by decide +kernel
theorem dX6_scan_65 : decode cX6_scan 65 = .ok (.iload_n 3, 1) := by decide +kernel
theorem dX6_scan_66 : decode cX6_scan 66 = .ok (.iload_n 2, 1) := by decide +kernel
theorem dX6_scan_67 : decode cX6_scan 67 = .ok (.invokestatic 49, 3) := by decide +kernel
theorem dX6_scan_70 : decode cX6_scan 70 = .ok (.iload 4, 2) := by decide +kernel
theorem dX6_scan_72 : decode cX6_scan 72 = .ok (.invokevirtual 53, 3) := by decide +kernel
theorem dX6_scan_75 : decode cX6_scan 75 = .ok (.iinc 3 1, 3) := by decide +kernel
theorem dX6_scan_78 : decode cX6_scan 78 = .ok (.goto (-56), 3) := by decide +kernel
theorem dX6_scan_81 : decode cX6_scan 81 = .ok (.aload_n 0, 1) := by decide +kernel
theorem dX6_scan_82 : decode cX6_scan 82 = .ok (.aload_n 1, 1) := by decide +kernel
theorem dX6_scan_83 : decode cX6_scan 83 = .ok (.iload_n 2, 1) := by decide +kernel
theorem dX6_scan_84 : decode cX6_scan 84 = .ok (.iload_n 2, 1) := by decide +kernel
theorem dX6_scan_85 : decode cX6_scan 85 = .ok (.iconst 3, 1) := by decide +kernel
theorem dX6_scan_86 : decode cX6_scan 86 = .ok (.invokevirtual 53, 3) := by decide +kernel
theorem dX6_scan_89 : decode cX6_scan 89 = .ok (.return_, 1) := by decide +kernel
theorem dX6_kindOf_0 : decode cX6_kindOf 0 = .ok (.iload_n 0, 1) := by decide +kernel
theorem dX6_kindOf_1 : decode cX6_kindOf 1 = .ok (.bipush 32, 2) := by decide +kernel
theorem dX6_kindOf_3 : decode cX6_kindOf 3 = .ok (.if_icmp .ne 5, 3) := by decide +kernel
theorem dX6_kindOf_6 : decode cX6_kindOf 6 = .ok (.iconst 0, 1) := by decide +kernel
theorem dX6_kindOf_7 : decode cX6_kindOf 7 = .ok (.ireturn, 1) := by decide +kernel
theorem dX6_kindOf_8 : decode cX6_kindOf 8 = .ok (.iload_n 0, 1) := by decide +kernel
theorem dX6_kindOf_9 : decode cX6_kindOf 9 = .ok (.bipush 48, 2) := by decide +kernel
theorem dX6_kindOf_11 : decode cX6_kindOf 11 = .ok (.if_icmp .lt 11, 3) := by decide +kernel
theorem dX6_kindOf_14 : decode cX6_kindOf 14 = .ok (.iload_n 0, 1) := by decide +kernel
theorem dX6_kindOf_15 : decode cX6_kindOf 15 = .ok (.bipush 57, 2) := by decide +kernel
theorem dX6_kindOf_17 : decode cX6_kindOf 17 = .ok (.if_icmp .gt 5, 3) := by decide +kernel
theorem dX6_kindOf_20 : decode cX6_kindOf 20 = .ok (.iconst 1, 1) := by decide +kernel
theorem dX6_kindOf_21 : decode cX6_kindOf 21 = .ok (.ireturn, 1) := by decide +kernel
theorem dX6_kindOf_22 : decode cX6_kindOf 22 = .ok (.iload_n 0, 1) := by decide +kernel
theorem dX6_kindOf_23 : decode cX6_kindOf 23 = .ok (.bipush 97, 2) := by decide +kernel
theorem dX6_kindOf_25 : decode cX6_kindOf 25 = .ok (.if_icmp .lt 13, 3) := by decide +kernel
theorem dX6_kindOf_28 : decode cX6_kindOf 28 = .ok (.iload_n 0, 1) := by decide +kernel
theorem dX6_kindOf_29 : decode cX6_kindOf 29 = .ok (.bipush 122, 2) := by decide +kernel
theorem dX6_kindOf_31 : decode cX6_kindOf 31 = .ok (.if_icmp .gt 7, 3) := by decide +kernel
theorem dX6_kindOf_34 : decode cX6_kindOf 34 = .ok (.iconst 2, 1) := by decide +kernel
theorem dX6_kindOf_35 : decode cX6_kindOf 35 = .ok (.goto 4, 3) := by decide +kernel
theorem dX6_kindOf_38 : decode cX6_kindOf 38 = .ok (.iconst 3, 1) := by decide +kernel
theorem dX6_kindOf_39 : decode cX6_kindOf 39 = .ok (.ireturn, 1) := by decide +kernel
theorem dX6_goesOn_0 : decode cX6_goesOn 0 = .ok (.iload_n 0, 1) := by decide +kernel
theorem dX6_goesOn_1 : decode cX6_goesOn 1 = .ok (.iconst 3, 1) := by decide +kernel
theorem dX6_goesOn_2 : decode cX6_goesOn 2 = .ok (.if_icmp .eq 15, 3) := by decide +kernel
theorem dX6_goesOn_5 : decode cX6_goesOn 5 = .ok (.iload_n 0, 1) := by decide +kernel
theorem dX6_goesOn_6 : decode cX6_goesOn 6 = .ok (.iload_n 1, 1) := by decide +kernel
theorem dX6_goesOn_7 : decode cX6_goesOn 7 = .ok (.invokestatic 41, 3) := by decide +kernel
theorem dX6_goesOn_10 : decode cX6_goesOn 10 = .ok (.if_icmp .ne 7, 3) := by decide +kernel
theorem dX6_goesOn_13 : decode cX6_goesOn 13 = .ok (.iconst 1, 1) := by decide +kernel
theorem dX6_goesOn_14 : decode cX6_goesOn 14 = .ok (.goto 4, 3) := by decide +kernel
theorem dX6_goesOn_17 : decode cX6_goesOn 17 = .ok (.iconst 0, 1) := by decide +kernel
theorem dX6_goesOn_18 : decode cX6_goesOn 18 = .ok (.ireturn, 1) := by decide +kernel
theorem dX6_endOfRun_0 : decode cX6_endOfRun 0 = .ok (.aload_n 0, 1) := by decide +kernel
theorem dX6_endOfRun_1 : decode cX6_endOfRun 1 = .ok (.iload_n 1, 1) := by decide +kernel
theorem dX6_endOfRun_2 : decode cX6_endOfRun 2 = .ok (.invokestatic 37, 3) := by decide +kernel
theorem dX6_endOfRun_5 : decode cX6_endOfRun 5 = .ok (.invokestatic 41, 3) := by decide +kernel
theorem dX6_endOfRun_8 : decode cX6_endOfRun 8 = .ok (.istore_n 3, 1) := by decide +kernel
theorem dX6_endOfRun_9 : decode cX6_endOfRun 9 = .ok (.iload_n 1, 1) := by decide +kernel
theorem dX6_endOfRun_10 : decode cX6_endOfRun 10 = .ok (.iconst 1, 1) := by decide +kernel
theorem dX6_endOfRun_11 : decode cX6_endOfRun 11 = .ok (.iadd, 1) := by decide +kernel
theorem dX6_endOfRun_12 : decode cX6_endOfRun 12 = .ok (.istore 4, 2) := by decide +kernel
theorem dX6_endOfRun_14 : decode cX6_endOfRun 14 = .ok (.iload 4, 2) := by decide +kernel
theorem dX6_endOfRun_16 : decode cX6_endOfRun 16 = .ok (.iload_n 2, 1) := by decide +kernel
theorem dX6_endOfRun_17 : decode cX6_endOfRun 17 = .ok (.if_icmp .ge 25, 3) := by decide +kernel
theorem dX6_endOfRun_20 : decode cX6_endOfRun 20 = .ok (.iload_n 3, 1) := by decide +kernel
theorem dX6_endOfRun_21 : decode cX6_endOfRun 21 = .ok (.aload_n 0, 1) := by decide +kernel
theorem dX6_endOfRun_22 : decode cX6_endOfRun 22 = .ok (.iload 4, 2) := by decide +kernel
theorem dX6_endOfRun_24 : decode cX6_endOfRun 24 = .ok (.invokestatic 37, 3) := by decide +kernel
theorem dX6_endOfRun_27 : decode cX6_endOfRun 27 = .ok (.invokestatic 45, 3) := by decide +kernel
theorem dX6_endOfRun_30 : decode cX6_endOfRun 30 = .ok (.ifCond .ne 6, 3) := by decide +kernel
theorem dX6_endOfRun_33 : decode cX6_endOfRun 33 = .ok (.iload 4, 2) := by decide +kernel
theorem dX6_endOfRun_35 : decode cX6_endOfRun 35 = .ok (.ireturn, 1) := by decide +kernel
theorem dX6_endOfRun_36 : decode cX6_endOfRun 36 = .ok (.iinc 4 1, 3) := by decide +kernel
theorem dX6_endOfRun_39 : decode cX6_endOfRun 39 = .ok (.goto (-25), 3) := by decide +kernel
theorem dX6_endOfRun_42 : decode cX6_endOfRun 42 = .ok (.iload_n 2, 1) := by decide +kernel
theorem dX6_endOfRun_43 : decode cX6_endOfRun 43 = .ok (.ireturn, 1) := by decide +kernel
theorem dX6_note_0 : decode cX6_note 0 = .ok (.aload_n 0, 1) := by decide +kernel
theorem dX6_note_1 : decode cX6_note 1 = .ok (.getfield 24, 3) := by decide +kernel
theorem dX6_note_4 : decode cX6_note 4 = .ok (.ifCond .lt 13, 3) := by decide +kernel
theorem dX6_note_7 : decode cX6_note 7 = .ok (.aload_n 0, 1) := by decide +kernel
theorem dX6_note_8 : decode cX6_note 8 = .ok (.getfield 24, 3) := by decide +kernel
theorem dX6_note_11 : decode cX6_note 11 = .ok (.sipush 800, 3) := by decide +kernel
theorem dX6_note_14 : decode cX6_note 14 = .ok (.if_icmp .le 4, 3) := by decide +kernel
theorem dX6_note_17 : decode cX6_note 17 = .ok (.return_, 1) := by decide +kernel
theorem dX6_note_18 : decode cX6_note 18 = .ok (.iload_n 2, 1) := by decide +kernel
theorem dX6_note_19 : decode cX6_note 19 = .ok (.iload_n 3, 1) := by decide +kernel
theorem dX6_note_20 : decode cX6_note 20 = .ok (.if_icmp .ne 18, 3) := by decide +kernel
theorem dX6_note_23 : decode cX6_note 23 = .ok (.aload_n 0, 1) := by decide +kernel
theorem dX6_note_24 : decode cX6_note 24 = .ok (.getfield 11, 3) := by decide +kernel
theorem dX6_note_27 : decode cX6_note 27 = .ok (.aload_n 0, 1) := by decide +kernel
theorem dX6_note_28 : decode cX6_note 28 = .ok (.getfield 24, 3) := by decide +kernel
theorem dX6_note_31 : decode cX6_note 31 = .ok (.getstatic 57, 3) := by decide +kernel
theorem dX6_note_34 : decode cX6_note 34 = .ok (.aastore, 1) := by decide +kernel
theorem dX6_note_35 : decode cX6_note 35 = .ok (.goto 30, 3) := by decide +kernel
theorem dX6_note_38 : decode cX6_note 38 = .ok (.aload_n 0, 1) := by decide +kernel
theorem dX6_note_39 : decode cX6_note 39 = .ok (.getfield 11, 3) := by decide +kernel
theorem dX6_note_42 : decode cX6_note 42 = .ok (.aload_n 0, 1) := by decide +kernel
theorem dX6_note_43 : decode cX6_note 43 = .ok (.getfield 24, 3) := by decide +kernel
theorem dX6_note_46 : decode cX6_note 46 = .ok (.iload 4, 2) := by decide +kernel
theorem dX6_note_48 : decode cX6_note 48 = .ok (.iconst 1, 1) := by decide +kernel
theorem dX6_note_49 : decode cX6_note 49 = .ok (.if_icmp .ne 9, 3) := by decide +kernel
theorem dX6_note_52 : decode cX6_note 52 = .ok (.getstatic 61, 3) := by decide +kernel
theorem dX6_note_55 : decode cX6_note 55 = .ok (.goto 9, 3) := by decide +kernel
theorem dX6_note_58 : decode cX6_note 58 = .ok (.aload_n 1, 1) := by decide +kernel
theorem dX6_note_59 : decode cX6_note 59 = .ok (.iload_n 2, 1) := by decide +kernel
theorem dX6_note_60 : decode cX6_note 60 = .ok (.iload_n 3, 1) := by decide +kernel
theorem dX6_note_61 : decode cX6_note 61 = .ok (.invokestatic 64, 3) := by decide +kernel
theorem dX6_note_64 : decode cX6_note 64 = .ok (.aastore, 1) := by decide +kernel
theorem dX6_note_65 : decode cX6_note 65 = .ok (.aload_n 0, 1) := by decide +kernel
theorem dX6_note_66 : decode cX6_note 66 = .ok (.getfield 17, 3) := by decide +kernel
theorem dX6_note_69 : decode cX6_note 69 = .ok (.aload_n 0, 1) := by decide +kernel
theorem dX6_note_70 : decode cX6_note 70 = .ok (.getfield 24, 3) := by decide +kernel
theorem dX6_note_73 : decode cX6_note 73 = .ok (.iload_n 2, 1) := by decide +kernel
theorem dX6_note_74 : decode cX6_note 74 = .ok (.iastore, 1) := by decide +kernel
theorem dX6_note_75 : decode cX6_note 75 = .ok (.aload_n 0, 1) := by decide +kernel
theorem dX6_note_76 : decode cX6_note 76 = .ok (.getfield 21, 3) := by decide +kernel
theorem dX6_note_79 : decode cX6_note 79 = .ok (.aload_n 0, 1) := by decide +kernel
theorem dX6_note_80 : decode cX6_note 80 = .ok (.getfield 24, 3) := by decide +kernel
theorem dX6_note_83 : decode cX6_note 83 = .ok (.iload 4, 2) := by decide +kernel
theorem dX6_note_85 : decode cX6_note 85 = .ok (.iconst 1, 1) := by decide +kernel
theorem dX6_note_86 : decode cX6_note 86 = .ok (.if_icmp .ne 12, 3) := by decide +kernel
theorem dX6_note_89 : decode cX6_note 89 = .ok (.aload_n 1, 1) := by decide +kernel
theorem dX6_note_90 : decode cX6_note 90 = .ok (.iload_n 2, 1) := by decide +kernel
theorem dX6_note_91 : decode cX6_note 91 = .ok (.iload_n 3, 1) := by decide +kernel
theorem dX6_note_92 : decode cX6_note 92 = .ok (.invokestatic 68, 3) := by decide +kernel
theorem dX6_note_95 : decode cX6_note 95 = .ok (.goto 4, 3) := by decide +kernel
theorem dX6_note_98 : decode cX6_note 98 = .ok (.iconst 0, 1) := by decide +kernel
theorem dX6_note_99 : decode cX6_note 99 = .ok (.iastore, 1) := by decide +kernel
theorem dX6_note_100 : decode cX6_note 100 = .ok (.aload_n 0, 1) := by decide +kernel
theorem dX6_note_101 : decode cX6_note 101 = .ok (.dup, 1) := by decide +kernel
theorem dX6_note_102 : decode cX6_note 102 = .ok (.getfield 24, 3) := by decide +kernel
theorem dX6_note_105 : decode cX6_note 105 = .ok (.iconst 1, 1) := by decide +kernel
theorem dX6_note_106 : decode cX6_note 106 = .ok (.iadd, 1) := by decide +kernel
theorem dX6_note_107 : decode cX6_note 107 = .ok (.putfield 24, 3) := by decide +kernel
theorem dX6_note_110 : decode cX6_note 110 = .ok (.return_, 1) := by decide +kernel
theorem dX6_tokenAt_0 : decode cX6_tokenAt 0 = .ok (.iconst 0, 1) := by decide +kernel
theorem dX6_tokenAt_1 : decode cX6_tokenAt 1 = .ok (.istore_n 3, 1) := by decide +kernel
theorem dX6_tokenAt_2 : decode cX6_tokenAt 2 = .ok (.iload_n 3, 1) := by decide +kernel
theorem dX6_tokenAt_3 : decode cX6_tokenAt 3 = .ok (.getstatic 71, 3) := by decide +kernel
theorem dX6_tokenAt_6 : decode cX6_tokenAt 6 = .ok (.arraylength, 1) := by decide +kernel
theorem dX6_tokenAt_7 : decode cX6_tokenAt 7 = .ok (.if_icmp .ge 29, 3) := by decide +kernel
theorem dX6_tokenAt_10 : decode cX6_tokenAt 10 = .ok (.getstatic 71, 3) := by decide +kernel
theorem dX6_tokenAt_13 : decode cX6_tokenAt 13 = .ok (.iload_n 3, 1) := by decide +kernel
theorem dX6_tokenAt_14 : decode cX6_tokenAt 14 = .ok (.aaload, 1) := by decide +kernel
theorem dX6_tokenAt_15 : decode cX6_tokenAt 15 = .ok (.aload_n 0, 1) := by decide +kernel
theorem dX6_tokenAt_16 : decode cX6_tokenAt 16 = .ok (.iload_n 1, 1) := by decide +kernel
theorem dX6_tokenAt_17 : decode cX6_tokenAt 17 = .ok (.iload_n 2, 1) := by decide +kernel
theorem dX6_tokenAt_18 : decode cX6_tokenAt 18 = .ok (.invokevirtual 74, 3) := by decide +kernel
theorem dX6_tokenAt_21 : decode cX6_tokenAt 21 = .ok (.ifCond .eq 9, 3) := by decide +kernel
theorem dX6_tokenAt_24 : decode cX6_tokenAt 24 = .ok (.getstatic 71, 3) := by decide +kernel
theorem dX6_tokenAt_27 : decode cX6_tokenAt 27 = .ok (.iload_n 3, 1) := by decide +kernel
theorem dX6_tokenAt_28 : decode cX6_tokenAt 28 = .ok (.aaload, 1) := by decide +kernel
theorem dX6_tokenAt_29 : decode cX6_tokenAt 29 = .ok (.areturn, 1) := by decide +kernel
theorem dX6_tokenAt_30 : decode cX6_tokenAt 30 = .ok (.iinc 3 1, 3) := by decide +kernel
theorem dX6_tokenAt_33 : decode cX6_tokenAt 33 = .ok (.goto (-31), 3) := by decide +kernel
theorem dX6_tokenAt_36 : decode cX6_tokenAt 36 = .ok (.getstatic 78, 3) := by decide +kernel
theorem dX6_tokenAt_39 : decode cX6_tokenAt 39 = .ok (.areturn, 1) := by decide +kernel
theorem dX6_numberAt_0 : decode cX6_numberAt 0 = .ok (.iconst 0, 1) := by decide +kernel
theorem dX6_numberAt_1 : decode cX6_numberAt 1 = .ok (.istore_n 3, 1) := by decide +kernel
theorem dX6_numberAt_2 : decode cX6_numberAt 2 = .ok (.iload_n 1, 1) := by decide +kernel
theorem dX6_numberAt_3 : decode cX6_numberAt 3 = .ok (.istore 4, 2) := by decide +kernel
theorem dX6_numberAt_5 : decode cX6_numberAt 5 = .ok (.iload 4, 2) := by decide +kernel
theorem dX6_numberAt_7 : decode cX6_numberAt 7 = .ok (.iload_n 2, 1) := by decide +kernel
theorem dX6_numberAt_8 : decode cX6_numberAt 8 = .ok (.if_icmp .ge 29, 3) := by decide +kernel
theorem dX6_numberAt_11 : decode cX6_numberAt 11 = .ok (.ldc 81, 2) := by decide +kernel
theorem dX6_numberAt_13 : decode cX6_numberAt 13 = .ok (.iload_n 3, 1) := by decide +kernel
theorem dX6_numberAt_14 : decode cX6_numberAt 14 = .ok (.bipush 10, 2) := by decide +kernel
theorem dX6_numberAt_16 : decode cX6_numberAt 16 = .ok (.imul, 1) := by decide +kernel
theorem dX6_numberAt_17 : decode cX6_numberAt 17 = .ok (.aload_n 0, 1) := by decide +kernel
theorem dX6_numberAt_18 : decode cX6_numberAt 18 = .ok (.iload 4, 2) := by decide +kernel
theorem dX6_numberAt_20 : decode cX6_numberAt 20 = .ok (.invokestatic 37, 3) := by decide +kernel
theorem dX6_numberAt_23 : decode cX6_numberAt 23 = .ok (.iadd, 1) := by decide +kernel
theorem dX6_numberAt_24 : decode cX6_numberAt 24 = .ok (.bipush 48, 2) := by decide +kernel
theorem dX6_numberAt_26 : decode cX6_numberAt 26 = .ok (.isub, 1) := by decide +kernel
theorem dX6_numberAt_27 : decode cX6_numberAt 27 = .ok (.invokestatic 82, 3) := by decide +kernel
theorem dX6_numberAt_30 : decode cX6_numberAt 30 = .ok (.istore_n 3, 1) := by decide +kernel
theorem dX6_numberAt_31 : decode cX6_numberAt 31 = .ok (.iinc 4 1, 3) := by decide +kernel
theorem dX6_numberAt_34 : decode cX6_numberAt 34 = .ok (.goto (-29), 3) := by decide +kernel
theorem dX6_numberAt_37 : decode cX6_numberAt 37 = .ok (.iload_n 3, 1) := by decide +kernel
theorem dX6_numberAt_38 : decode cX6_numberAt 38 = .ok (.ireturn, 1) := by decide +kernel
theorem dX6_ahead_0 : decode cX6_ahead 0 = .ok (.aload_n 0, 1) := by decide +kernel
theorem dX6_ahead_1 : decode cX6_ahead 1 = .ok (.getfield 31, 3) := by decide +kernel
theorem dX6_ahead_4 : decode cX6_ahead 4 = .ok (.ifCond .ne 31, 3) := by decide +kernel
theorem dX6_ahead_7 : decode cX6_ahead 7 = .ok (.aload_n 0, 1) := by decide +kernel
theorem dX6_ahead_8 : decode cX6_ahead 8 = .ok (.getfield 28, 3) := by decide +kernel
theorem dX6_ahead_11 : decode cX6_ahead 11 = .ok (.ifCond .lt 24, 3) := by decide +kernel
theorem dX6_ahead_14 : decode cX6_ahead 14 = .ok (.aload_n 0, 1) := by decide +kernel
theorem dX6_ahead_15 : decode cX6_ahead 15 = .ok (.getfield 28, 3) := by decide +kernel
theorem dX6_ahead_18 : decode cX6_ahead 18 = .ok (.aload_n 0, 1) := by decide +kernel
theorem dX6_ahead_19 : decode cX6_ahead 19 = .ok (.getfield 24, 3) := by decide +kernel
theorem dX6_ahead_22 : decode cX6_ahead 22 = .ok (.if_icmp .ge 13, 3) := by decide +kernel
theorem dX6_ahead_25 : decode cX6_ahead 25 = .ok (.aload_n 0, 1) := by decide +kernel
theorem dX6_ahead_26 : decode cX6_ahead 26 = .ok (.getfield 28, 3) := by decide +kernel
theorem dX6_ahead_29 : decode cX6_ahead 29 = .ok (.sipush 800, 3) := by decide +kernel
theorem dX6_ahead_32 : decode cX6_ahead 32 = .ok (.if_icmp .le 7, 3) := by decide +kernel
theorem dX6_ahead_35 : decode cX6_ahead 35 = .ok (.getstatic 88, 3) := by decide +kernel
theorem dX6_ahead_38 : decode cX6_ahead 38 = .ok (.areturn, 1) := by decide +kernel
theorem dX6_ahead_39 : decode cX6_ahead 39 = .ok (.aload_n 0, 1) := by decide +kernel
theorem dX6_ahead_40 : decode cX6_ahead 40 = .ok (.getfield 11, 3) := by decide +kernel
theorem dX6_ahead_43 : decode cX6_ahead 43 = .ok (.aload_n 0, 1) := by decide +kernel
theorem dX6_ahead_44 : decode cX6_ahead 44 = .ok (.getfield 28, 3) := by decide +kernel
theorem dX6_ahead_47 : decode cX6_ahead 47 = .ok (.aaload, 1) := by decide +kernel
theorem dX6_ahead_48 : decode cX6_ahead 48 = .ok (.areturn, 1) := by decide +kernel
theorem dX6_goOn_0 : decode cX6_goOn 0 = .ok (.aload_n 0, 1) := by decide +kernel
theorem dX6_goOn_1 : decode cX6_goOn 1 = .ok (.invokevirtual 91, 3) := by decide +kernel
theorem dX6_goOn_4 : decode cX6_goOn 4 = .ok (.getstatic 88, 3) := by decide +kernel
theorem dX6_goOn_7 : decode cX6_goOn 7 = .ok (.if_acmp .eq 17, 3) := by decide +kernel
theorem dX6_goOn_10 : decode cX6_goOn 10 = .ok (.aload_n 0, 1) := by decide +kernel
theorem dX6_goOn_11 : decode cX6_goOn 11 = .ok (.invokevirtual 91, 3) := by decide +kernel
theorem dX6_goOn_14 : decode cX6_goOn 14 = .ok (.getstatic 57, 3) := by decide +kernel
theorem dX6_goOn_17 : decode cX6_goOn 17 = .ok (.if_acmp .eq 7, 3) := by decide +kernel
theorem dX6_goOn_20 : decode cX6_goOn 20 = .ok (.iconst 1, 1) := by decide +kernel
theorem dX6_goOn_21 : decode cX6_goOn 21 = .ok (.goto 4, 3) := by decide +kernel
theorem dX6_goOn_24 : decode cX6_goOn 24 = .ok (.iconst 0, 1) := by decide +kernel
theorem dX6_goOn_25 : decode cX6_goOn 25 = .ok (.ireturn, 1) := by decide +kernel
theorem dX6_start_0 : decode cX6_start 0 = .ok (.aload_n 0, 1) := by decide +kernel
theorem dX6_start_1 : decode cX6_start 1 = .ok (.getfield 28, 3) := by decide +kernel
theorem dX6_start_4 : decode cX6_start 4 = .ok (.ifCond .lt 25, 3) := by decide +kernel
theorem dX6_start_7 : decode cX6_start 7 = .ok (.aload_n 0, 1) := by decide +kernel
theorem dX6_start_8 : decode cX6_start 8 = .ok (.getfield 28, 3) := by decide +kernel
theorem dX6_start_11 : decode cX6_start 11 = .ok (.sipush 800, 3) := by decide +kernel
theorem dX6_start_14 : decode cX6_start 14 = .ok (.if_icmp .gt 15, 3) := by decide +kernel
theorem dX6_start_17 : decode cX6_start 17 = .ok (.aload_n 0, 1) := by decide +kernel
theorem dX6_start_18 : decode cX6_start 18 = .ok (.getfield 17, 3) := by decide +kernel
theorem dX6_start_21 : decode cX6_start 21 = .ok (.aload_n 0, 1) := by decide +kernel
theorem dX6_start_22 : decode cX6_start 22 = .ok (.getfield 28, 3) := by decide +kernel
theorem dX6_start_25 : decode cX6_start 25 = .ok (.iaload, 1) := by decide +kernel
theorem dX6_start_26 : decode cX6_start 26 = .ok (.goto 4, 3) := by decide +kernel
theorem dX6_start_29 : decode cX6_start 29 = .ok (.iconst 0, 1) := by decide +kernel
theorem dX6_start_30 : decode cX6_start 30 = .ok (.ireturn, 1) := by decide +kernel
theorem dX6_skip_0 : decode cX6_skip 0 = .ok (.aload_n 0, 1) := by decide +kernel
theorem dX6_skip_1 : decode cX6_skip 1 = .ok (.dup, 1) := by decide +kernel
theorem dX6_skip_2 : decode cX6_skip 2 = .ok (.getfield 28, 3) := by decide +kernel
theorem dX6_skip_5 : decode cX6_skip 5 = .ok (.iconst 1, 1) := by decide +kernel
theorem dX6_skip_6 : decode cX6_skip 6 = .ok (.iadd, 1) := by decide +kernel
theorem dX6_skip_7 : decode cX6_skip 7 = .ok (.putfield 28, 3) := by decide +kernel
theorem dX6_skip_10 : decode cX6_skip 10 = .ok (.return_, 1) := by decide +kernel
theorem dX6_take_0 : decode cX6_take 0 = .ok (.aload_n 0, 1) := by decide +kernel
theorem dX6_take_1 : decode cX6_take 1 = .ok (.invokevirtual 91, 3) := by decide +kernel
theorem dX6_take_4 : decode cX6_take 4 = .ok (.aload_n 1, 1) := by decide +kernel
theorem dX6_take_5 : decode cX6_take 5 = .ok (.if_acmp .eq 5, 3) := by decide +kernel
theorem dX6_take_8 : decode cX6_take 8 = .ok (.iconst 0, 1) := by decide +kernel
theorem dX6_take_9 : decode cX6_take 9 = .ok (.ireturn, 1) := by decide +kernel
theorem dX6_take_10 : decode cX6_take 10 = .ok (.aload_n 0, 1) := by decide +kernel
theorem dX6_take_11 : decode cX6_take 11 = .ok (.dup, 1) := by decide +kernel
theorem dX6_take_12 : decode cX6_take 12 = .ok (.getfield 28, 3) := by decide +kernel
theorem dX6_take_15 : decode cX6_take 15 = .ok (.iconst 1, 1) := by decide +kernel
theorem dX6_take_16 : decode cX6_take 16 = .ok (.iadd, 1) := by decide +kernel
theorem dX6_take_17 : decode cX6_take 17 = .ok (.putfield 28, 3) := by decide +kernel
theorem dX6_take_20 : decode cX6_take 20 = .ok (.iconst 1, 1) := by decide +kernel
theorem dX6_take_21 : decode cX6_take 21 = .ok (.ireturn, 1) := by decide +kernel
theorem dX6_expect_0 : decode cX6_expect 0 = .ok (.aload_n 0, 1) := by decide +kernel
theorem dX6_expect_1 : decode cX6_expect 1 = .ok (.invokevirtual 91, 3) := by decide +kernel
theorem dX6_expect_4 : decode cX6_expect 4 = .ok (.aload_n 1, 1) := by decide +kernel
theorem dX6_expect_5 : decode cX6_expect 5 = .ok (.if_acmp .ne 16, 3) := by decide +kernel
theorem dX6_expect_8 : decode cX6_expect 8 = .ok (.aload_n 0, 1) := by decide +kernel
theorem dX6_expect_9 : decode cX6_expect 9 = .ok (.dup, 1) := by decide +kernel
theorem dX6_expect_10 : decode cX6_expect 10 = .ok (.getfield 28, 3) := by decide +kernel
theorem dX6_expect_13 : decode cX6_expect 13 = .ok (.iconst 1, 1) := by decide +kernel
theorem dX6_expect_14 : decode cX6_expect 14 = .ok (.iadd, 1) := by decide +kernel
theorem dX6_expect_15 : decode cX6_expect 15 = .ok (.putfield 28, 3) := by decide +kernel
theorem dX6_expect_18 : decode cX6_expect 18 = .ok (.goto 13, 3) := by decide +kernel
theorem dX6_expect_21 : decode cX6_expect 21 = .ok (.aload_n 0, 1) := by decide +kernel
theorem dX6_expect_22 : decode cX6_expect 22 = .ok (.bipush (-2), 2) := by decide +kernel
theorem dX6_expect_24 : decode cX6_expect 24 = .ok (.aload_n 0, 1) := by decide +kernel
theorem dX6_expect_25 : decode cX6_expect 25 = .ok (.invokevirtual 95, 3) := by decide +kernel
theorem dX6_expect_28 : decode cX6_expect 28 = .ok (.invokevirtual 99, 3) := by decide +kernel
theorem dX6_expect_31 : decode cX6_expect 31 = .ok (.return_, 1) := by decide +kernel
theorem dX6_open_0 : decode cX6_open 0 = .ok (.aload_n 0, 1) := by decide +kernel
theorem dX6_open_1 : decode cX6_open 1 = .ok (.invokevirtual 91, 3) := by decide +kernel
theorem dX6_open_4 : decode cX6_open 4 = .ok (.getstatic 103, 3) := by decide +kernel
theorem dX6_open_7 : decode cX6_open 7 = .ok (.if_acmp .eq 16, 3) := by decide +kernel
theorem dX6_open_10 : decode cX6_open 10 = .ok (.aload_n 0, 1) := by decide +kernel
theorem dX6_open_11 : decode cX6_open 11 = .ok (.bipush (-2), 2) := by decide +kernel
theorem dX6_open_13 : decode cX6_open 13 = .ok (.aload_n 0, 1) := by decide +kernel
theorem dX6_open_14 : decode cX6_open 14 = .ok (.invokevirtual 95, 3) := by decide +kernel
theorem dX6_open_17 : decode cX6_open 17 = .ok (.invokevirtual 99, 3) := by decide +kernel
theorem dX6_open_20 : decode cX6_open 20 = .ok (.goto 18, 3) := by decide +kernel
theorem dX6_open_23 : decode cX6_open 23 = .ok (.iload_n 1, 1) := by decide +kernel
theorem dX6_open_24 : decode cX6_open 24 = .ok (.iconst 4, 1) := by decide +kernel
theorem dX6_open_25 : decode cX6_open 25 = .ok (.if_icmp .lt 13, 3) := by decide +kernel
theorem dX6_open_28 : decode cX6_open 28 = .ok (.aload_n 0, 1) := by decide +kernel
theorem dX6_open_29 : decode cX6_open 29 = .ok (.bipush (-6), 2) := by decide +kernel
theorem dX6_open_31 : decode cX6_open 31 = .ok (.aload_n 0, 1) := by decide +kernel
theorem dX6_open_32 : decode cX6_open 32 = .ok (.invokevirtual 95, 3) := by decide +kernel
theorem dX6_open_35 : decode cX6_open 35 = .ok (.invokevirtual 99, 3) := by decide +kernel
theorem dX6_open_38 : decode cX6_open 38 = .ok (.aload_n 0, 1) := by decide +kernel
theorem dX6_open_39 : decode cX6_open 39 = .ok (.dup, 1) := by decide +kernel
theorem dX6_open_40 : decode cX6_open 40 = .ok (.getfield 28, 3) := by decide +kernel
theorem dX6_open_43 : decode cX6_open 43 = .ok (.iconst 1, 1) := by decide +kernel
theorem dX6_open_44 : decode cX6_open 44 = .ok (.iadd, 1) := by decide +kernel
theorem dX6_open_45 : decode cX6_open 45 = .ok (.putfield 28, 3) := by decide +kernel
theorem dX6_open_48 : decode cX6_open 48 = .ok (.aload_n 0, 1) := by decide +kernel
theorem dX6_open_49 : decode cX6_open 49 = .ok (.getfield 31, 3) := by decide +kernel
theorem dX6_open_52 : decode cX6_open 52 = .ok (.ifCond .ne 7, 3) := by decide +kernel
theorem dX6_open_55 : decode cX6_open 55 = .ok (.iconst 1, 1) := by decide +kernel
theorem dX6_open_56 : decode cX6_open 56 = .ok (.goto 4, 3) := by decide +kernel
theorem dX6_open_59 : decode cX6_open 59 = .ok (.iconst 0, 1) := by decide +kernel
theorem dX6_open_60 : decode cX6_open 60 = .ok (.ireturn, 1) := by decide +kernel
theorem dX6_number_0 : decode cX6_number 0 = .ok (.aload_n 0, 1) := by decide +kernel
theorem dX6_number_1 : decode cX6_number 1 = .ok (.invokevirtual 95, 3) := by decide +kernel
theorem dX6_number_4 : decode cX6_number 4 = .ok (.istore_n 3, 1) := by decide +kernel
theorem dX6_number_5 : decode cX6_number 5 = .ok (.aload_n 0, 1) := by decide +kernel
theorem dX6_number_6 : decode cX6_number 6 = .ok (.invokevirtual 91, 3) := by decide +kernel
theorem dX6_number_9 : decode cX6_number 9 = .ok (.getstatic 61, 3) := by decide +kernel
theorem dX6_number_12 : decode cX6_number 12 = .ok (.if_acmp .eq 12, 3) := by decide +kernel
theorem dX6_number_15 : decode cX6_number 15 = .ok (.aload_n 0, 1) := by decide +kernel
theorem dX6_number_16 : decode cX6_number 16 = .ok (.bipush (-2), 2) := by decide +kernel
theorem dX6_number_18 : decode cX6_number 18 = .ok (.iload_n 3, 1) := by decide +kernel
theorem dX6_number_19 : decode cX6_number 19 = .ok (.invokevirtual 99, 3) := by decide +kernel
theorem dX6_number_22 : decode cX6_number 22 = .ok (.iload_n 1, 1) := by decide +kernel
theorem dX6_number_23 : decode cX6_number 23 = .ok (.ireturn, 1) := by decide +kernel
theorem dX6_number_24 : decode cX6_number 24 = .ok (.aload_n 0, 1) := by decide +kernel
theorem dX6_number_25 : decode cX6_number 25 = .ok (.getfield 21, 3) := by decide +kernel
theorem dX6_number_28 : decode cX6_number 28 = .ok (.aload_n 0, 1) := by decide +kernel
theorem dX6_number_29 : decode cX6_number 29 = .ok (.getfield 28, 3) := by decide +kernel
theorem dX6_number_32 : decode cX6_number 32 = .ok (.invokestatic 37, 3) := by decide +kernel
theorem dX6_number_35 : decode cX6_number 35 = .ok (.istore 4, 2) := by decide +kernel
theorem dX6_number_37 : decode cX6_number 37 = .ok (.aload_n 0, 1) := by decide +kernel
theorem dX6_number_38 : decode cX6_number 38 = .ok (.dup, 1) := by decide +kernel
theorem dX6_number_39 : decode cX6_number 39 = .ok (.getfield 28, 3) := by decide +kernel
theorem dX6_number_42 : decode cX6_number 42 = .ok (.iconst 1, 1) := by decide +kernel
theorem dX6_number_43 : decode cX6_number 43 = .ok (.iadd, 1) := by decide +kernel
theorem dX6_number_44 : decode cX6_number 44 = .ok (.putfield 28, 3) := by decide +kernel
theorem dX6_number_47 : decode cX6_number 47 = .ok (.iload 4, 2) := by decide +kernel
theorem dX6_number_49 : decode cX6_number 49 = .ok (.iload_n 1, 1) := by decide +kernel
theorem dX6_number_50 : decode cX6_number 50 = .ok (.if_icmp .lt 9, 3) := by decide +kernel
theorem dX6_number_53 : decode cX6_number 53 = .ok (.iload 4, 2) := by decide +kernel
theorem dX6_number_55 : decode cX6_number 55 = .ok (.iload_n 2, 1) := by decide +kernel
theorem dX6_number_56 : decode cX6_number 56 = .ok (.if_icmp .le 12, 3) := by decide +kernel
theorem dX6_number_59 : decode cX6_number 59 = .ok (.aload_n 0, 1) := by decide +kernel
theorem dX6_number_60 : decode cX6_number 60 = .ok (.bipush (-3), 2) := by decide +kernel
theorem dX6_number_62 : decode cX6_number 62 = .ok (.iload_n 3, 1) := by decide +kernel
theorem dX6_number_63 : decode cX6_number 63 = .ok (.invokevirtual 99, 3) := by decide +kernel
theorem dX6_number_66 : decode cX6_number 66 = .ok (.iload_n 1, 1) := by decide +kernel
theorem dX6_number_67 : decode cX6_number 67 = .ok (.ireturn, 1) := by decide +kernel
theorem dX6_number_68 : decode cX6_number 68 = .ok (.iload 4, 2) := by decide +kernel
theorem dX6_number_70 : decode cX6_number 70 = .ok (.ireturn, 1) := by decide +kernel
theorem dX6_fail_0 : decode cX6_fail 0 = .ok (.aload_n 0, 1) := by decide +kernel
theorem dX6_fail_1 : decode cX6_fail 1 = .ok (.getfield 31, 3) := by decide +kernel
theorem dX6_fail_4 : decode cX6_fail 4 = .ok (.ifCond .ne 13, 3) := by decide +kernel
theorem dX6_fail_7 : decode cX6_fail 7 = .ok (.aload_n 0, 1) := by decide +kernel
theorem dX6_fail_8 : decode cX6_fail 8 = .ok (.iload_n 1, 1) := by decide +kernel
theorem dX6_fail_9 : decode cX6_fail 9 = .ok (.putfield 31, 3) := by decide +kernel
theorem dX6_fail_12 : decode cX6_fail 12 = .ok (.aload_n 0, 1) := by decide +kernel
theorem dX6_fail_13 : decode cX6_fail 13 = .ok (.iload_n 2, 1) := by decide +kernel
theorem dX6_fail_14 : decode cX6_fail 14 = .ok (.putfield 34, 3) := by decide +kernel
theorem dX6_fail_17 : decode cX6_fail 17 = .ok (.return_, 1) := by decide +kernel
theorem dX7_init_0 : decode cX7_init 0 = .ok (.aload_n 0, 1) := by decide +kernel
theorem dX7_init_1 : decode cX7_init 1 = .ok (.invokespecial 3, 3) := by decide +kernel
theorem dX7_init_4 : decode cX7_init 4 = .ok (.aload_n 0, 1) := by decide +kernel
theorem dX7_init_5 : decode cX7_init 5 = .ok (.sipush 512, 3) := by decide +kernel
theorem dX7_init_8 : decode cX7_init 8 = .ok (.newarray .int, 2) := by decide +kernel
theorem dX7_init_10 : decode cX7_init 10 = .ok (.putfield 9, 3) := by decide +kernel
theorem dX7_init_13 : decode cX7_init 13 = .ok (.aload_n 0, 1) := by decide +kernel
theorem dX7_init_14 : decode cX7_init 14 = .ok (.bipush 64, 2) := by decide +kernel
theorem dX7_init_16 : decode cX7_init 16 = .ok (.newarray .int, 2) := by decide +kernel
theorem dX7_init_18 : decode cX7_init 18 = .ok (.putfield 15, 3) := by decide +kernel
theorem dX7_init_21 : decode cX7_init 21 = .ok (.aload_n 0, 1) := by decide +kernel
theorem dX7_init_22 : decode cX7_init 22 = .ok (.bipush 64, 2) := by decide +kernel
theorem dX7_init_24 : decode cX7_init 24 = .ok (.newarray .int, 2) := by decide +kernel
theorem dX7_init_26 : decode cX7_init 26 = .ok (.putfield 18, 3) := by decide +kernel
theorem dX7_init_29 : decode cX7_init 29 = .ok (.aload_n 0, 1) := by decide +kernel
theorem dX7_init_30 : decode cX7_init 30 = .ok (.lconst 0, 1) := by decide +kernel
theorem dX7_init_31 : decode cX7_init 31 = .ok (.putfield 21, 3) := by decide +kernel
theorem dX7_init_34 : decode cX7_init 34 = .ok (.return_, 1) := by decide +kernel
theorem dX7_explore_0 : decode cX7_explore 0 = .ok (.aload_n 0, 1) := by decide +kernel
theorem dX7_explore_1 : decode cX7_explore 1 = .ok (.lconst 0, 1) := by decide +kernel
theorem dX7_explore_2 : decode cX7_explore 2 = .ok (.putfield 21, 3) := by decide +kernel
theorem dX7_explore_5 : decode cX7_explore 5 = .ok (.aload_n 0, 1) := by decide +kernel
theorem dX7_explore_6 : decode cX7_explore 6 = .ok (.getfield 15, 3) := by decide +kernel
theorem dX7_explore_9 : decode cX7_explore 9 = .ok (.iconst 0, 1) := by decide +kernel
theorem dX7_explore_10 : decode cX7_explore 10 = .ok (.invokestatic 25, 3) := by decide +kernel
theorem dX7_explore_13 : decode cX7_explore 13 = .ok (.aload_n 0, 1) := by decide +kernel
theorem dX7_explore_14 : decode cX7_explore 14 = .ok (.getfield 18, 3) := by decide +kernel
theorem dX7_explore_17 : decode cX7_explore 17 = .ok (.bipush 99, 2) := by decide +kernel
theorem dX7_explore_19 : decode cX7_explore 19 = .ok (.invokestatic 25, 3) := by decide +kernel
theorem dX7_explore_22 : decode cX7_explore 22 = .ok (.aload_n 1, 1) := by decide +kernel
theorem dX7_explore_23 : decode cX7_explore 23 = .ok (.getfield 31, 3) := by decide +kernel
theorem dX7_explore_26 : decode cX7_explore 26 = .ok (.ifCond .eq 5, 3) := by decide +kernel
theorem dX7_explore_29 : decode cX7_explore 29 = .ok (.iconst 0, 1) := by decide +kernel
theorem dX7_explore_30 : decode cX7_explore 30 = .ok (.ireturn, 1) := by decide +kernel
theorem dX7_explore_31 : decode cX7_explore 31 = .ok (.iconst 0, 1) := by decide +kernel
theorem dX7_explore_32 : decode cX7_explore 32 = .ok (.istore_n 3, 1) := by decide +kernel
theorem dX7_explore_33 : decode cX7_explore 33 = .ok (.iload_n 3, 1) := by decide +kernel
theorem dX7_explore_34 : decode cX7_explore 34 = .ok (.bipush 8, 2) := by decide +kernel
theorem dX7_explore_36 : decode cX7_explore 36 = .ok (.if_icmp .ge 30, 3) := by decide +kernel
theorem dX7_explore_39 : decode cX7_explore 39 = .ok (.aload_n 0, 1) := by decide +kernel
theorem dX7_explore_40 : decode cX7_explore 40 = .ok (.getfield 9, 3) := by decide +kernel
theorem dX7_explore_43 : decode cX7_explore 43 = .ok (.aload_n 1, 1) := by decide +kernel
theorem dX7_explore_44 : decode cX7_explore 44 = .ok (.getfield 37, 3) := by decide +kernel
theorem dX7_explore_47 : decode cX7_explore 47 = .ok (.bipush 8, 2) := by decide +kernel
theorem dX7_explore_49 : decode cX7_explore 49 = .ok (.imul, 1) := by decide +kernel
theorem dX7_explore_50 : decode cX7_explore 50 = .ok (.iload_n 3, 1) := by decide +kernel
theorem dX7_explore_51 : decode cX7_explore 51 = .ok (.iadd, 1) := by decide +kernel
theorem dX7_explore_52 : decode cX7_explore 52 = .ok (.aload_n 2, 1) := by decide +kernel
theorem dX7_explore_53 : decode cX7_explore 53 = .ok (.iload_n 3, 1) := by decide +kernel
theorem dX7_explore_54 : decode cX7_explore 54 = .ok (.invokestatic 40, 3) := by decide +kernel
theorem dX7_explore_57 : decode cX7_explore 57 = .ok (.invokestatic 44, 3) := by decide +kernel
theorem dX7_explore_60 : decode cX7_explore 60 = .ok (.iinc 3 1, 3) := by decide +kernel
theorem dX7_explore_63 : decode cX7_explore 63 = .ok (.goto (-30), 3) := by decide +kernel
theorem dX7_explore_66 : decode cX7_explore 66 = .ok (.aload_n 0, 1) := by decide +kernel
theorem dX7_explore_67 : decode cX7_explore 67 = .ok (.lconst 1, 1) := by decide +kernel
theorem dX7_explore_68 : decode cX7_explore 68 = .ok (.aload_n 1, 1) := by decide +kernel
theorem dX7_explore_69 : decode cX7_explore 69 = .ok (.getfield 37, 3) := by decide +kernel
theorem dX7_explore_72 : decode cX7_explore 72 = .ok (.lshl, 1) := by decide +kernel
theorem dX7_explore_73 : decode cX7_explore 73 = .ok (.putfield 21, 3) := by decide +kernel
theorem dX7_explore_76 : decode cX7_explore 76 = .ok (.aload_n 0, 1) := by decide +kernel
theorem dX7_explore_77 : decode cX7_explore 77 = .ok (.aload_n 1, 1) := by decide +kernel
theorem dX7_explore_78 : decode cX7_explore 78 = .ok (.invokevirtual 48, 3) := by decide +kernel
theorem dX7_explore_81 : decode cX7_explore 81 = .ok (.aload_n 0, 1) := by decide +kernel
theorem dX7_explore_82 : decode cX7_explore 82 = .ok (.aload_n 1, 1) := by decide +kernel
theorem dX7_explore_83 : decode cX7_explore 83 = .ok (.invokevirtual 52, 3) := by decide +kernel
theorem dX7_explore_86 : decode cX7_explore 86 = .ok (.aload_n 0, 1) := by decide +kernel
theorem dX7_explore_87 : decode cX7_explore 87 = .ok (.getfield 18, 3) := by decide +kernel
theorem dX7_explore_90 : decode cX7_explore 90 = .ok (.aload_n 1, 1) := by decide +kernel
theorem dX7_explore_91 : decode cX7_explore 91 = .ok (.getfield 37, 3) := by decide +kernel
theorem dX7_explore_94 : decode cX7_explore 94 = .ok (.invokestatic 40, 3) := by decide +kernel
theorem dX7_explore_97 : decode cX7_explore 97 = .ok (.bipush 99, 2) := by decide +kernel
theorem dX7_explore_99 : decode cX7_explore 99 = .ok (.if_icmp .ge 7, 3) := by decide +kernel
theorem dX7_explore_102 : decode cX7_explore 102 = .ok (.iconst 1, 1) := by decide +kernel
theorem dX7_explore_103 : decode cX7_explore 103 = .ok (.goto 4, 3) := by decide +kernel
theorem dX7_explore_106 : decode cX7_explore 106 = .ok (.iconst 0, 1) := by decide +kernel
theorem dX7_explore_107 : decode cX7_explore 107 = .ok (.ireturn, 1) := by decide +kernel
theorem dX7_goForward_0 : decode cX7_goForward 0 = .ok (.iconst 0, 1) := by decide +kernel
theorem dX7_goForward_1 : decode cX7_goForward 1 = .ok (.istore_n 2, 1) := by decide +kernel
theorem dX7_goForward_2 : decode cX7_goForward 2 = .ok (.iload_n 2, 1) := by decide +kernel
theorem dX7_goForward_3 : decode cX7_goForward 3 = .ok (.bipush 64, 2) := by decide +kernel
theorem dX7_goForward_5 : decode cX7_goForward 5 = .ok (.if_icmp .ge 65, 3) := by decide +kernel
theorem dX7_goForward_8 : decode cX7_goForward 8 = .ok (.aload_n 0, 1) := by decide +kernel
theorem dX7_goForward_9 : decode cX7_goForward 9 = .ok (.iload_n 2, 1) := by decide +kernel
theorem dX7_goForward_10 : decode cX7_goForward 10 = .ok (.invokevirtual 55, 3) := by decide +kernel
theorem dX7_goForward_13 : decode cX7_goForward 13 = .ok (.ifCond .eq 51, 3) := by decide +kernel
theorem dX7_goForward_16 : decode cX7_goForward 16 = .ok (.aload_n 1, 1) := by decide +kernel
theorem dX7_goForward_17 : decode cX7_goForward 17 = .ok (.iload_n 2, 1) := by decide +kernel
theorem dX7_goForward_18 : decode cX7_goForward 18 = .ok (.invokevirtual 59, 3) := by decide +kernel
theorem dX7_goForward_21 : decode cX7_goForward 21 = .ok (.ifCond .ne 43, 3) := by decide +kernel
theorem dX7_goForward_24 : decode cX7_goForward 24 = .ok (.iconst 0, 1) := by decide +kernel
theorem dX7_goForward_25 : decode cX7_goForward 25 = .ok (.istore_n 3, 1) := by decide +kernel
theorem dX7_goForward_26 : decode cX7_goForward 26 = .ok (.iload_n 3, 1) := by decide +kernel
theorem dX7_goForward_27 : decode cX7_goForward 27 = .ok (.aload_n 1, 1) := by decide +kernel
theorem dX7_goForward_28 : decode cX7_goForward 28 = .ok (.getfield 62, 3) := by decide +kernel
theorem dX7_goForward_31 : decode cX7_goForward 31 = .ok (.if_icmp .ge 33, 3) := by decide +kernel
theorem dX7_goForward_34 : decode cX7_goForward 34 = .ok (.aload_n 1, 1) := by decide +kernel
theorem dX7_goForward_35 : decode cX7_goForward 35 = .ok (.iload_n 2, 1) := by decide +kernel
theorem dX7_goForward_36 : decode cX7_goForward 36 = .ok (.iload_n 3, 1) := by decide +kernel
theorem dX7_goForward_37 : decode cX7_goForward 37 = .ok (.aload_n 0, 1) := by decide +kernel
theorem dX7_goForward_38 : decode cX7_goForward 38 = .ok (.getfield 9, 3) := by decide +kernel
theorem dX7_goForward_41 : decode cX7_goForward 41 = .ok (.iload_n 2, 1) := by decide +kernel
theorem dX7_goForward_42 : decode cX7_goForward 42 = .ok (.bipush 8, 2) := by decide +kernel
theorem dX7_goForward_44 : decode cX7_goForward 44 = .ok (.imul, 1) := by decide +kernel
theorem dX7_goForward_45 : decode cX7_goForward 45 = .ok (.invokevirtual 65, 3) := by decide +kernel
theorem dX7_goForward_48 : decode cX7_goForward 48 = .ok (.ifCond .ne 10, 3) := by decide +kernel
theorem dX7_goForward_51 : decode cX7_goForward 51 = .ok (.aload_n 0, 1) := by decide +kernel
theorem dX7_goForward_52 : decode cX7_goForward 52 = .ok (.aload_n 1, 1) := by decide +kernel
theorem dX7_goForward_53 : decode cX7_goForward 53 = .ok (.iload_n 2, 1) := by decide +kernel
theorem dX7_goForward_54 : decode cX7_goForward 54 = .ok (.iload_n 3, 1) := by decide +kernel
theorem dX7_goForward_55 : decode cX7_goForward 55 = .ok (.invokevirtual 69, 3) := by decide +kernel
theorem dX7_goForward_58 : decode cX7_goForward 58 = .ok (.iinc 3 1, 3) := by decide +kernel
theorem dX7_goForward_61 : decode cX7_goForward 61 = .ok (.goto (-35), 3) := by decide +kernel
theorem dX7_goForward_64 : decode cX7_goForward 64 = .ok (.iinc 2 1, 3) := by decide +kernel
theorem dX7_goForward_67 : decode cX7_goForward 67 = .ok (.goto (-65), 3) := by decide +kernel
theorem dX7_goForward_70 : decode cX7_goForward 70 = .ok (.return_, 1) := by decide +kernel
theorem dX7_reach_0 : decode cX7_reach 0 = .ok (.iload_n 2, 1) := by decide +kernel
theorem dX7_reach_1 : decode cX7_reach 1 = .ok (.iconst 1, 1) := by decide +kernel
theorem dX7_reach_2 : decode cX7_reach 2 = .ok (.iload_n 3, 1) := by decide +kernel
theorem dX7_reach_3 : decode cX7_reach 3 = .ok (.ishl, 1) := by decide +kernel
theorem dX7_reach_4 : decode cX7_reach 4 = .ok (.ior, 1) := by decide +kernel
theorem dX7_reach_5 : decode cX7_reach 5 = .ok (.istore 4, 2) := by decide +kernel
theorem dX7_reach_7 : decode cX7_reach 7 = .ok (.iconst 0, 1) := by decide +kernel
theorem dX7_reach_8 : decode cX7_reach 8 = .ok (.istore 5, 2) := by decide +kernel
theorem dX7_reach_10 : decode cX7_reach 10 = .ok (.iload 5, 2) := by decide +kernel
theorem dX7_reach_12 : decode cX7_reach 12 = .ok (.bipush 8, 2) := by decide +kernel
theorem dX7_reach_14 : decode cX7_reach 14 = .ok (.if_icmp .ge 71, 3) := by decide +kernel
theorem dX7_reach_17 : decode cX7_reach 17 = .ok (.iload_n 3, 1) := by decide +kernel
theorem dX7_reach_18 : decode cX7_reach 18 = .ok (.bipush 8, 2) := by decide +kernel
theorem dX7_reach_20 : decode cX7_reach 20 = .ok (.imul, 1) := by decide +kernel
theorem dX7_reach_21 : decode cX7_reach 21 = .ok (.iload 5, 2) := by decide +kernel
theorem dX7_reach_23 : decode cX7_reach 23 = .ok (.iadd, 1) := by decide +kernel
theorem dX7_reach_24 : decode cX7_reach 24 = .ok (.istore 6, 2) := by decide +kernel
theorem dX7_reach_26 : decode cX7_reach 26 = .ok (.aload_n 0, 1) := by decide +kernel
theorem dX7_reach_27 : decode cX7_reach 27 = .ok (.getfield 9, 3) := by decide +kernel
theorem dX7_reach_30 : decode cX7_reach 30 = .ok (.iload_n 2, 1) := by decide +kernel
theorem dX7_reach_31 : decode cX7_reach 31 = .ok (.bipush 8, 2) := by decide +kernel
theorem dX7_reach_33 : decode cX7_reach 33 = .ok (.imul, 1) := by decide +kernel
theorem dX7_reach_34 : decode cX7_reach 34 = .ok (.iload 5, 2) := by decide +kernel
theorem dX7_reach_36 : decode cX7_reach 36 = .ok (.iadd, 1) := by decide +kernel
theorem dX7_reach_37 : decode cX7_reach 37 = .ok (.invokestatic 40, 3) := by decide +kernel
theorem dX7_reach_40 : decode cX7_reach 40 = .ok (.aload_n 1, 1) := by decide +kernel
theorem dX7_reach_41 : decode cX7_reach 41 = .ok (.getfield 73, 3) := by decide +kernel
theorem dX7_reach_44 : decode cX7_reach 44 = .ok (.iload 6, 2) := by decide +kernel
theorem dX7_reach_46 : decode cX7_reach 46 = .ok (.invokestatic 40, 3) := by decide +kernel
theorem dX7_reach_49 : decode cX7_reach 49 = .ok (.isub, 1) := by decide +kernel
theorem dX7_reach_50 : decode cX7_reach 50 = .ok (.aload_n 1, 1) := by decide +kernel
theorem dX7_reach_51 : decode cX7_reach 51 = .ok (.getfield 76, 3) := by decide +kernel
theorem dX7_reach_54 : decode cX7_reach 54 = .ok (.iload 6, 2) := by decide +kernel
theorem dX7_reach_56 : decode cX7_reach 56 = .ok (.invokestatic 40, 3) := by decide +kernel
theorem dX7_reach_59 : decode cX7_reach 59 = .ok (.iadd, 1) := by decide +kernel
theorem dX7_reach_60 : decode cX7_reach 60 = .ok (.istore 7, 2) := by decide +kernel
theorem dX7_reach_62 : decode cX7_reach 62 = .ok (.aload_n 0, 1) := by decide +kernel
theorem dX7_reach_63 : decode cX7_reach 63 = .ok (.getfield 9, 3) := by decide +kernel
theorem dX7_reach_66 : decode cX7_reach 66 = .ok (.iload 4, 2) := by decide +kernel
theorem dX7_reach_68 : decode cX7_reach 68 = .ok (.bipush 8, 2) := by decide +kernel
theorem dX7_reach_70 : decode cX7_reach 70 = .ok (.imul, 1) := by decide +kernel
theorem dX7_reach_71 : decode cX7_reach 71 = .ok (.iload 5, 2) := by decide +kernel
theorem dX7_reach_73 : decode cX7_reach 73 = .ok (.iadd, 1) := by decide +kernel
theorem dX7_reach_74 : decode cX7_reach 74 = .ok (.iload 7, 2) := by decide +kernel
theorem dX7_reach_76 : decode cX7_reach 76 = .ok (.invokestatic 44, 3) := by decide +kernel
theorem dX7_reach_79 : decode cX7_reach 79 = .ok (.iinc 5 1, 3) := by decide +kernel
theorem dX7_reach_82 : decode cX7_reach 82 = .ok (.goto (-72), 3) := by decide +kernel
theorem dX7_reach_85 : decode cX7_reach 85 = .ok (.aload_n 0, 1) := by decide +kernel
theorem dX7_reach_86 : decode cX7_reach 86 = .ok (.getfield 15, 3) := by decide +kernel
theorem dX7_reach_89 : decode cX7_reach 89 = .ok (.iload_n 2, 1) := by decide +kernel
theorem dX7_reach_90 : decode cX7_reach 90 = .ok (.aload_n 0, 1) := by decide +kernel
theorem dX7_reach_91 : decode cX7_reach 91 = .ok (.getfield 15, 3) := by decide +kernel
theorem dX7_reach_94 : decode cX7_reach 94 = .ok (.iload_n 2, 1) := by decide +kernel
theorem dX7_reach_95 : decode cX7_reach 95 = .ok (.invokestatic 40, 3) := by decide +kernel
theorem dX7_reach_98 : decode cX7_reach 98 = .ok (.iconst 1, 1) := by decide +kernel
theorem dX7_reach_99 : decode cX7_reach 99 = .ok (.iload_n 3, 1) := by decide +kernel
theorem dX7_reach_100 : decode cX7_reach 100 = .ok (.ishl, 1) := by decide +kernel
theorem dX7_reach_101 : decode cX7_reach 101 = .ok (.ior, 1) := by decide +kernel
theorem dX7_reach_102 : decode cX7_reach 102 = .ok (.invokestatic 44, 3) := by decide +kernel
theorem dX7_reach_105 : decode cX7_reach 105 = .ok (.aload_n 0, 1) := by decide +kernel
theorem dX7_reach_106 : decode cX7_reach 106 = .ok (.dup, 1) := by decide +kernel
theorem dX7_reach_107 : decode cX7_reach 107 = .ok (.getfield 21, 3) := by decide +kernel
theorem dX7_reach_110 : decode cX7_reach 110 = .ok (.lconst 1, 1) := by decide +kernel
theorem dX7_reach_111 : decode cX7_reach 111 = .ok (.iload 4, 2) := by decide +kernel
theorem dX7_reach_113 : decode cX7_reach 113 = .ok (.lshl, 1) := by decide +kernel
theorem dX7_reach_114 : decode cX7_reach 114 = .ok (.lor, 1) := by decide +kernel
theorem dX7_reach_115 : decode cX7_reach 115 = .ok (.putfield 21, 3) := by decide +kernel
theorem dX7_reach_118 : decode cX7_reach 118 = .ok (.return_, 1) := by decide +kernel
theorem dX7_measureBackward_0 : decode cX7_measureBackward 0 = .ok (.bipush 63, 2) := by decide +kernel
theorem dX7_measureBackward_2 : decode cX7_measureBackward 2 = .ok (.istore_n 2, 1) := by decide +kernel
theorem dX7_measureBackward_3 : decode cX7_measureBackward 3 = .ok (.iload_n 2, 1) := by decide +kernel
theorem dX7_measureBackward_4 : decode cX7_measureBackward 4 = .ok (.ifCond .lt 40, 3) := by decide +kernel
theorem dX7_measureBackward_7 : decode cX7_measureBackward 7 = .ok (.aload_n 0, 1) := by decide +kernel
theorem dX7_measureBackward_8 : decode cX7_measureBackward 8 = .ok (.iload_n 2, 1) := by decide +kernel
theorem dX7_measureBackward_9 : decode cX7_measureBackward 9 = .ok (.invokevirtual 55, 3) := by decide +kernel
theorem dX7_measureBackward_12 : decode cX7_measureBackward 12 = .ok (.ifCond .eq 26, 3) := by decide +kernel
theorem dX7_measureBackward_15 : decode cX7_measureBackward 15 = .ok (.aload_n 0, 1) := by decide +kernel
theorem dX7_measureBackward_16 : decode cX7_measureBackward 16 = .ok (.getfield 18, 3) := by decide +kernel
theorem dX7_measureBackward_19 : decode cX7_measureBackward 19 = .ok (.iload_n 2, 1) := by decide +kernel
theorem dX7_measureBackward_20 : decode cX7_measureBackward 20 = .ok (.aload_n 1, 1) := by decide +kernel
theorem dX7_measureBackward_21 : decode cX7_measureBackward 21 = .ok (.iload_n 2, 1) := by decide +kernel
theorem dX7_measureBackward_22 : decode cX7_measureBackward 22 = .ok (.invokevirtual 59, 3) := by decide +kernel
theorem dX7_measureBackward_25 : decode cX7_measureBackward 25 = .ok (.ifCond .eq 7, 3) := by decide +kernel
theorem dX7_measureBackward_28 : decode cX7_measureBackward 28 = .ok (.iconst 0, 1) := by decide +kernel
theorem dX7_measureBackward_29 : decode cX7_measureBackward 29 = .ok (.goto 8, 3) := by decide +kernel
theorem dX7_measureBackward_32 : decode cX7_measureBackward 32 = .ok (.aload_n 0, 1) := by decide +kernel
theorem dX7_measureBackward_33 : decode cX7_measureBackward 33 = .ok (.iload_n 2, 1) := by decide +kernel
theorem dX7_measureBackward_34 : decode cX7_measureBackward 34 = .ok (.invokevirtual 79, 3) := by decide +kernel
theorem dX7_measureBackward_37 : decode cX7_measureBackward 37 = .ok (.iastore, 1) := by decide +kernel
theorem dX7_measureBackward_38 : decode cX7_measureBackward 38 = .ok (.iinc 2 (-1), 3) := by decide +kernel
theorem dX7_measureBackward_41 : decode cX7_measureBackward 41 = .ok (.goto (-38), 3) := by decide +kernel
theorem dX7_measureBackward_44 : decode cX7_measureBackward 44 = .ok (.return_, 1) := by decide +kernel
theorem dX7_leastToGo_0 : decode cX7_leastToGo 0 = .ok (.bipush 99, 2) := by decide +kernel
theorem dX7_leastToGo_2 : decode cX7_leastToGo 2 = .ok (.istore_n 2, 1) := by decide +kernel
theorem dX7_leastToGo_3 : decode cX7_leastToGo 3 = .ok (.iconst 0, 1) := by decide +kernel
theorem dX7_leastToGo_4 : decode cX7_leastToGo 4 = .ok (.istore_n 3, 1) := by decide +kernel
theorem dX7_leastToGo_5 : decode cX7_leastToGo 5 = .ok (.iload_n 3, 1) := by decide +kernel
theorem dX7_leastToGo_6 : decode cX7_leastToGo 6 = .ok (.bipush 6, 2) := by decide +kernel
theorem dX7_leastToGo_8 : decode cX7_leastToGo 8 = .ok (.if_icmp .ge 43, 3) := by decide +kernel
theorem dX7_leastToGo_11 : decode cX7_leastToGo 11 = .ok (.aload_n 0, 1) := by decide +kernel
theorem dX7_leastToGo_12 : decode cX7_leastToGo 12 = .ok (.getfield 15, 3) := by decide +kernel
theorem dX7_leastToGo_15 : decode cX7_leastToGo 15 = .ok (.iload_n 1, 1) := by decide +kernel
theorem dX7_leastToGo_16 : decode cX7_leastToGo 16 = .ok (.invokestatic 40, 3) := by decide +kernel
theorem dX7_leastToGo_19 : decode cX7_leastToGo 19 = .ok (.iload_n 3, 1) := by decide +kernel
theorem dX7_leastToGo_20 : decode cX7_leastToGo 20 = .ok (.iushr, 1) := by decide +kernel
theorem dX7_leastToGo_21 : decode cX7_leastToGo 21 = .ok (.iconst 1, 1) := by decide +kernel
theorem dX7_leastToGo_22 : decode cX7_leastToGo 22 = .ok (.iand, 1) := by decide +kernel
theorem dX7_leastToGo_23 : decode cX7_leastToGo 23 = .ok (.ifCond .eq 22, 3) := by decide +kernel
theorem dX7_leastToGo_26 : decode cX7_leastToGo 26 = .ok (.iload_n 2, 1) := by decide +kernel
theorem dX7_leastToGo_27 : decode cX7_leastToGo 27 = .ok (.aload_n 0, 1) := by decide +kernel
theorem dX7_leastToGo_28 : decode cX7_leastToGo 28 = .ok (.getfield 18, 3) := by decide +kernel
theorem dX7_leastToGo_31 : decode cX7_leastToGo 31 = .ok (.iload_n 1, 1) := by decide +kernel
theorem dX7_leastToGo_32 : decode cX7_leastToGo 32 = .ok (.iconst 1, 1) := by decide +kernel
theorem dX7_leastToGo_33 : decode cX7_leastToGo 33 = .ok (.iload_n 3, 1) := by decide +kernel
theorem dX7_leastToGo_34 : decode cX7_leastToGo 34 = .ok (.ishl, 1) := by decide +kernel
theorem dX7_leastToGo_35 : decode cX7_leastToGo 35 = .ok (.ior, 1) := by decide +kernel
theorem dX7_leastToGo_36 : decode cX7_leastToGo 36 = .ok (.invokestatic 40, 3) := by decide +kernel
theorem dX7_leastToGo_39 : decode cX7_leastToGo 39 = .ok (.iconst 1, 1) := by decide +kernel
theorem dX7_leastToGo_40 : decode cX7_leastToGo 40 = .ok (.iadd, 1) := by decide +kernel
theorem dX7_leastToGo_41 : decode cX7_leastToGo 41 = .ok (.invokestatic 83, 3) := by decide +kernel
theorem dX7_leastToGo_44 : decode cX7_leastToGo 44 = .ok (.istore_n 2, 1) := by decide +kernel
theorem dX7_leastToGo_45 : decode cX7_leastToGo 45 = .ok (.iinc 3 1, 3) := by decide +kernel
theorem dX7_leastToGo_48 : decode cX7_leastToGo 48 = .ok (.goto (-43), 3) := by decide +kernel
theorem dX7_leastToGo_51 : decode cX7_leastToGo 51 = .ok (.iload_n 2, 1) := by decide +kernel
theorem dX7_leastToGo_52 : decode cX7_leastToGo 52 = .ok (.ireturn, 1) := by decide +kernel
theorem dX7_isReached_0 : decode cX7_isReached 0 = .ok (.aload_n 0, 1) := by decide +kernel
theorem dX7_isReached_1 : decode cX7_isReached 1 = .ok (.getfield 21, 3) := by decide +kernel
theorem dX7_isReached_4 : decode cX7_isReached 4 = .ok (.iload_n 1, 1) := by decide +kernel
theorem dX7_isReached_5 : decode cX7_isReached 5 = .ok (.lushr, 1) := by decide +kernel
theorem dX7_isReached_6 : decode cX7_isReached 6 = .ok (.lconst 1, 1) := by decide +kernel
theorem dX7_isReached_7 : decode cX7_isReached 7 = .ok (.land, 1) := by decide +kernel
theorem dX7_isReached_8 : decode cX7_isReached 8 = .ok (.lconst 0, 1) := by decide +kernel
theorem dX7_isReached_9 : decode cX7_isReached 9 = .ok (.lcmp, 1) := by decide +kernel
theorem dX7_isReached_10 : decode cX7_isReached 10 = .ok (.ifCond .eq 7, 3) := by decide +kernel
theorem dX7_isReached_13 : decode cX7_isReached 13 = .ok (.iconst 1, 1) := by decide +kernel
theorem dX7_isReached_14 : decode cX7_isReached 14 = .ok (.goto 4, 3) := by decide +kernel
theorem dX7_isReached_17 : decode cX7_isReached 17 = .ok (.iconst 0, 1) := by decide +kernel
theorem dX7_isReached_18 : decode cX7_isReached 18 = .ok (.ireturn, 1) := by decide +kernel
theorem dX7_lengthOfPlan_0 : decode cX7_lengthOfPlan 0 = .ok (.aload_n 0, 1) := by decide +kernel
theorem dX7_lengthOfPlan_1 : decode cX7_lengthOfPlan 1 = .ok (.getfield 18, 3) := by decide +kernel
theorem dX7_lengthOfPlan_4 : decode cX7_lengthOfPlan 4 = .ok (.aload_n 1, 1) := by decide +kernel
theorem dX7_lengthOfPlan_5 : decode cX7_lengthOfPlan 5 = .ok (.getfield 37, 3) := by decide +kernel
theorem dX7_lengthOfPlan_8 : decode cX7_lengthOfPlan 8 = .ok (.invokestatic 40, 3) := by decide +kernel
theorem dX7_lengthOfPlan_11 : decode cX7_lengthOfPlan 11 = .ok (.istore_n 2, 1) := by decide +kernel
theorem dX7_lengthOfPlan_12 : decode cX7_lengthOfPlan 12 = .ok (.iload_n 2, 1) := by decide +kernel
theorem dX7_lengthOfPlan_13 : decode cX7_lengthOfPlan 13 = .ok (.bipush 99, 2) := by decide +kernel
theorem dX7_lengthOfPlan_15 : decode cX7_lengthOfPlan 15 = .ok (.if_icmp .ge 7, 3) := by decide +kernel
theorem dX7_lengthOfPlan_18 : decode cX7_lengthOfPlan 18 = .ok (.iload_n 2, 1) := by decide +kernel
theorem dX7_lengthOfPlan_19 : decode cX7_lengthOfPlan 19 = .ok (.goto 4, 3) := by decide +kernel
theorem dX7_lengthOfPlan_22 : decode cX7_lengthOfPlan 22 = .ok (.iconst (-1), 1) := by decide +kernel
theorem dX7_lengthOfPlan_23 : decode cX7_lengthOfPlan 23 = .ok (.ireturn, 1) := by decide +kernel
theorem dX7_nextOfPlan_0 : decode cX7_nextOfPlan 0 = .ok (.iconst 0, 1) := by decide +kernel
theorem dX7_nextOfPlan_1 : decode cX7_nextOfPlan 1 = .ok (.istore_n 2, 1) := by decide +kernel
theorem dX7_nextOfPlan_2 : decode cX7_nextOfPlan 2 = .ok (.iload_n 2, 1) := by decide +kernel
theorem dX7_nextOfPlan_3 : decode cX7_nextOfPlan 3 = .ok (.bipush 6, 2) := by decide +kernel
theorem dX7_nextOfPlan_5 : decode cX7_nextOfPlan 5 = .ok (.if_icmp .ge 61, 3) := by decide +kernel
theorem dX7_nextOfPlan_8 : decode cX7_nextOfPlan 8 = .ok (.aload_n 0, 1) := by decide +kernel
theorem dX7_nextOfPlan_9 : decode cX7_nextOfPlan 9 = .ok (.getfield 15, 3) := by decide +kernel
theorem dX7_nextOfPlan_12 : decode cX7_nextOfPlan 12 = .ok (.iload_n 1, 1) := by decide +kernel
theorem dX7_nextOfPlan_13 : decode cX7_nextOfPlan 13 = .ok (.invokestatic 40, 3) := by decide +kernel
theorem dX7_nextOfPlan_16 : decode cX7_nextOfPlan 16 = .ok (.iload_n 2, 1) := by decide +kernel
theorem dX7_nextOfPlan_17 : decode cX7_nextOfPlan 17 = .ok (.iushr, 1) := by decide +kernel
theorem dX7_nextOfPlan_18 : decode cX7_nextOfPlan 18 = .ok (.iconst 1, 1) := by decide +kernel
theorem dX7_nextOfPlan_19 : decode cX7_nextOfPlan 19 = .ok (.iand, 1) := by decide +kernel
theorem dX7_nextOfPlan_20 : decode cX7_nextOfPlan 20 = .ok (.ifCond .eq 7, 3) := by decide +kernel
theorem dX7_nextOfPlan_23 : decode cX7_nextOfPlan 23 = .ok (.iconst 1, 1) := by decide +kernel
theorem dX7_nextOfPlan_24 : decode cX7_nextOfPlan 24 = .ok (.goto 4, 3) := by decide +kernel
theorem dX7_nextOfPlan_27 : decode cX7_nextOfPlan 27 = .ok (.iconst 0, 1) := by decide +kernel
theorem dX7_nextOfPlan_28 : decode cX7_nextOfPlan 28 = .ok (.istore_n 3, 1) := by decide +kernel
theorem dX7_nextOfPlan_29 : decode cX7_nextOfPlan 29 = .ok (.iload_n 3, 1) := by decide +kernel
theorem dX7_nextOfPlan_30 : decode cX7_nextOfPlan 30 = .ok (.ifCond .eq 30, 3) := by decide +kernel
theorem dX7_nextOfPlan_33 : decode cX7_nextOfPlan 33 = .ok (.aload_n 0, 1) := by decide +kernel
theorem dX7_nextOfPlan_34 : decode cX7_nextOfPlan 34 = .ok (.getfield 18, 3) := by decide +kernel
theorem dX7_nextOfPlan_37 : decode cX7_nextOfPlan 37 = .ok (.iload_n 1, 1) := by decide +kernel
theorem dX7_nextOfPlan_38 : decode cX7_nextOfPlan 38 = .ok (.iconst 1, 1) := by decide +kernel
theorem dX7_nextOfPlan_39 : decode cX7_nextOfPlan 39 = .ok (.iload_n 2, 1) := by decide +kernel
theorem dX7_nextOfPlan_40 : decode cX7_nextOfPlan 40 = .ok (.ishl, 1) := by decide +kernel
theorem dX7_nextOfPlan_41 : decode cX7_nextOfPlan 41 = .ok (.ior, 1) := by decide +kernel
theorem dX7_nextOfPlan_42 : decode cX7_nextOfPlan 42 = .ok (.invokestatic 40, 3) := by decide +kernel
theorem dX7_nextOfPlan_45 : decode cX7_nextOfPlan 45 = .ok (.aload_n 0, 1) := by decide +kernel
theorem dX7_nextOfPlan_46 : decode cX7_nextOfPlan 46 = .ok (.getfield 18, 3) := by decide +kernel
theorem dX7_nextOfPlan_49 : decode cX7_nextOfPlan 49 = .ok (.iload_n 1, 1) := by decide +kernel
theorem dX7_nextOfPlan_50 : decode cX7_nextOfPlan 50 = .ok (.invokestatic 40, 3) := by decide +kernel
theorem dX7_nextOfPlan_53 : decode cX7_nextOfPlan 53 = .ok (.iconst 1, 1) := by decide +kernel
theorem dX7_nextOfPlan_54 : decode cX7_nextOfPlan 54 = .ok (.isub, 1) := by decide +kernel
theorem dX7_nextOfPlan_55 : decode cX7_nextOfPlan 55 = .ok (.if_icmp .ne 5, 3) := by decide +kernel
theorem dX7_nextOfPlan_58 : decode cX7_nextOfPlan 58 = .ok (.iload_n 2, 1) := by decide +kernel
theorem dX7_nextOfPlan_59 : decode cX7_nextOfPlan 59 = .ok (.ireturn, 1) := by decide +kernel
theorem dX7_nextOfPlan_60 : decode cX7_nextOfPlan 60 = .ok (.iinc 2 1, 3) := by decide +kernel
theorem dX7_nextOfPlan_63 : decode cX7_nextOfPlan 63 = .ok (.goto (-61), 3) := by decide +kernel
theorem dX7_nextOfPlan_66 : decode cX7_nextOfPlan 66 = .ok (.iconst 0, 1) := by decide +kernel
theorem dX7_nextOfPlan_67 : decode cX7_nextOfPlan 67 = .ok (.ireturn, 1) := by decide +kernel
theorem dX7_setBehindPlan_0 : decode cX7_setBehindPlan 0 = .ok (.aload_n 1, 1) := by decide +kernel
theorem dX7_setBehindPlan_1 : decode cX7_setBehindPlan 1 = .ok (.getfield 37, 3) := by decide +kernel
theorem dX7_setBehindPlan_4 : decode cX7_setBehindPlan 4 = .ok (.istore_n 3, 1) := by decide +kernel
theorem dX7_setBehindPlan_5 : decode cX7_setBehindPlan 5 = .ok (.iconst 0, 1) := by decide +kernel
theorem dX7_setBehindPlan_6 : decode cX7_setBehindPlan 6 = .ok (.istore 4, 2) := by decide +kernel
theorem dX7_setBehindPlan_8 : decode cX7_setBehindPlan 8 = .ok (.iload 4, 2) := by decide +kernel
theorem dX7_setBehindPlan_10 : decode cX7_setBehindPlan 10 = .ok (.iload_n 2, 1) := by decide +kernel
theorem dX7_setBehindPlan_11 : decode cX7_setBehindPlan 11 = .ok (.if_icmp .ge 19, 3) := by decide +kernel
theorem dX7_setBehindPlan_14 : decode cX7_setBehindPlan 14 = .ok (.iload_n 3, 1) := by decide +kernel
theorem dX7_setBehindPlan_15 : decode cX7_setBehindPlan 15 = .ok (.iconst 1, 1) := by decide +kernel
theorem dX7_setBehindPlan_16 : decode cX7_setBehindPlan 16 = .ok (.aload_n 0, 1) := by decide +kernel
theorem dX7_setBehindPlan_17 : decode cX7_setBehindPlan 17 = .ok (.iload_n 3, 1) := by decide +kernel
theorem dX7_setBehindPlan_18 : decode cX7_setBehindPlan 18 = .ok (.invokevirtual 89, 3) := by decide +kernel
theorem dX7_setBehindPlan_21 : decode cX7_setBehindPlan 21 = .ok (.ishl, 1) := by decide +kernel
theorem dX7_setBehindPlan_22 : decode cX7_setBehindPlan 22 = .ok (.ior, 1) := by decide +kernel
theorem dX7_setBehindPlan_23 : decode cX7_setBehindPlan 23 = .ok (.istore_n 3, 1) := by decide +kernel
theorem dX7_setBehindPlan_24 : decode cX7_setBehindPlan 24 = .ok (.iinc 4 1, 3) := by decide +kernel
theorem dX7_setBehindPlan_27 : decode cX7_setBehindPlan 27 = .ok (.goto (-19), 3) := by decide +kernel
theorem dX7_setBehindPlan_30 : decode cX7_setBehindPlan 30 = .ok (.iload_n 3, 1) := by decide +kernel
theorem dX7_setBehindPlan_31 : decode cX7_setBehindPlan 31 = .ok (.ireturn, 1) := by decide +kernel
theorem dX7_riskOfPlan_0 : decode cX7_riskOfPlan 0 = .ok (.aload_n 1, 1) := by decide +kernel
theorem dX7_riskOfPlan_1 : decode cX7_riskOfPlan 1 = .ok (.aload_n 0, 1) := by decide +kernel
theorem dX7_riskOfPlan_2 : decode cX7_riskOfPlan 2 = .ok (.aload_n 1, 1) := by decide +kernel
theorem dX7_riskOfPlan_3 : decode cX7_riskOfPlan 3 = .ok (.aload_n 0, 1) := by decide +kernel
theorem dX7_riskOfPlan_4 : decode cX7_riskOfPlan 4 = .ok (.aload_n 1, 1) := by decide +kernel
theorem dX7_riskOfPlan_5 : decode cX7_riskOfPlan 5 = .ok (.invokevirtual 92, 3) := by decide +kernel
theorem dX7_riskOfPlan_8 : decode cX7_riskOfPlan 8 = .ok (.invokevirtual 96, 3) := by decide +kernel
theorem dX7_riskOfPlan_11 : decode cX7_riskOfPlan 11 = .ok (.aload_n 1, 1) := by decide +kernel
theorem dX7_riskOfPlan_12 : decode cX7_riskOfPlan 12 = .ok (.getfield 37, 3) := by decide +kernel
theorem dX7_riskOfPlan_15 : decode cX7_riskOfPlan 15 = .ok (.iconst (-1), 1) := by decide +kernel
theorem dX7_riskOfPlan_16 : decode cX7_riskOfPlan 16 = .ok (.ixor, 1) := by decide +kernel
theorem dX7_riskOfPlan_17 : decode cX7_riskOfPlan 17 = .ok (.iand, 1) := by decide +kernel
theorem dX7_riskOfPlan_18 : decode cX7_riskOfPlan 18 = .ok (.invokevirtual 100, 3) := by decide +kernel
theorem dX7_riskOfPlan_21 : decode cX7_riskOfPlan 21 = .ok (.ireturn, 1) := by decide +kernel
theorem dX7_smallestRisk_0 : decode cX7_smallestRisk 0 = .ok (.iconst (-1), 1) := by decide +kernel
theorem dX7_smallestRisk_1 : decode cX7_smallestRisk 1 = .ok (.istore_n 2, 1) := by decide +kernel
theorem dX7_smallestRisk_2 : decode cX7_smallestRisk 2 = .ok (.iconst 0, 1) := by decide +kernel
theorem dX7_smallestRisk_3 : decode cX7_smallestRisk 3 = .ok (.istore_n 3, 1) := by decide +kernel
theorem dX7_smallestRisk_4 : decode cX7_smallestRisk 4 = .ok (.iload_n 3, 1) := by decide +kernel
theorem dX7_smallestRisk_5 : decode cX7_smallestRisk 5 = .ok (.bipush 64, 2) := by decide +kernel
theorem dX7_smallestRisk_7 : decode cX7_smallestRisk 7 = .ok (.if_icmp .ge 55, 3) := by decide +kernel
theorem dX7_smallestRisk_10 : decode cX7_smallestRisk 10 = .ok (.aload_n 0, 1) := by decide +kernel
theorem dX7_smallestRisk_11 : decode cX7_smallestRisk 11 = .ok (.iload_n 3, 1) := by decide +kernel
theorem dX7_smallestRisk_12 : decode cX7_smallestRisk 12 = .ok (.invokevirtual 55, 3) := by decide +kernel
theorem dX7_smallestRisk_15 : decode cX7_smallestRisk 15 = .ok (.ifCond .eq 41, 3) := by decide +kernel
theorem dX7_smallestRisk_18 : decode cX7_smallestRisk 18 = .ok (.aload_n 1, 1) := by decide +kernel
theorem dX7_smallestRisk_19 : decode cX7_smallestRisk 19 = .ok (.iload_n 3, 1) := by decide +kernel
theorem dX7_smallestRisk_20 : decode cX7_smallestRisk 20 = .ok (.invokevirtual 59, 3) := by decide +kernel
theorem dX7_smallestRisk_23 : decode cX7_smallestRisk 23 = .ok (.ifCond .eq 33, 3) := by decide +kernel
theorem dX7_smallestRisk_26 : decode cX7_smallestRisk 26 = .ok (.aload_n 1, 1) := by decide +kernel
theorem dX7_smallestRisk_27 : decode cX7_smallestRisk 27 = .ok (.iload_n 3, 1) := by decide +kernel
theorem dX7_smallestRisk_28 : decode cX7_smallestRisk 28 = .ok (.aload_n 1, 1) := by decide +kernel
theorem dX7_smallestRisk_29 : decode cX7_smallestRisk 29 = .ok (.getfield 37, 3) := by decide +kernel
theorem dX7_smallestRisk_32 : decode cX7_smallestRisk 32 = .ok (.iconst (-1), 1) := by decide +kernel
theorem dX7_smallestRisk_33 : decode cX7_smallestRisk 33 = .ok (.ixor, 1) := by decide +kernel
theorem dX7_smallestRisk_34 : decode cX7_smallestRisk 34 = .ok (.iand, 1) := by decide +kernel
theorem dX7_smallestRisk_35 : decode cX7_smallestRisk 35 = .ok (.invokevirtual 100, 3) := by decide +kernel
theorem dX7_smallestRisk_38 : decode cX7_smallestRisk 38 = .ok (.istore 4, 2) := by decide +kernel
theorem dX7_smallestRisk_40 : decode cX7_smallestRisk 40 = .ok (.iload_n 2, 1) := by decide +kernel
theorem dX7_smallestRisk_41 : decode cX7_smallestRisk 41 = .ok (.ifCond .ge 8, 3) := by decide +kernel
theorem dX7_smallestRisk_44 : decode cX7_smallestRisk 44 = .ok (.iload 4, 2) := by decide +kernel
theorem dX7_smallestRisk_46 : decode cX7_smallestRisk 46 = .ok (.goto 9, 3) := by decide +kernel
theorem dX7_smallestRisk_49 : decode cX7_smallestRisk 49 = .ok (.iload_n 2, 1) := by decide +kernel
theorem dX7_smallestRisk_50 : decode cX7_smallestRisk 50 = .ok (.iload 4, 2) := by decide +kernel
theorem dX7_smallestRisk_52 : decode cX7_smallestRisk 52 = .ok (.invokestatic 83, 3) := by decide +kernel
theorem dX7_smallestRisk_55 : decode cX7_smallestRisk 55 = .ok (.istore_n 2, 1) := by decide +kernel
theorem dX7_smallestRisk_56 : decode cX7_smallestRisk 56 = .ok (.iinc 3 1, 3) := by decide +kernel
theorem dX7_smallestRisk_59 : decode cX7_smallestRisk 59 = .ok (.goto (-55), 3) := by decide +kernel
theorem dX7_smallestRisk_62 : decode cX7_smallestRisk 62 = .ok (.iload_n 2, 1) := by decide +kernel
theorem dX7_smallestRisk_63 : decode cX7_smallestRisk 63 = .ok (.ireturn, 1) := by decide +kernel
theorem dX7_countEndings_0 : decode cX7_countEndings 0 = .ok (.aload_n 0, 1) := by decide +kernel
theorem dX7_countEndings_1 : decode cX7_countEndings 1 = .ok (.getfield 21, 3) := by decide +kernel
theorem dX7_countEndings_4 : decode cX7_countEndings 4 = .ok (.aload_n 1, 1) := by decide +kernel
theorem dX7_countEndings_5 : decode cX7_countEndings 5 = .ok (.getfield 103, 3) := by decide +kernel
theorem dX7_countEndings_8 : decode cX7_countEndings 8 = .ok (.land, 1) := by decide +kernel
theorem dX7_countEndings_9 : decode cX7_countEndings 9 = .ok (.invokestatic 106, 3) := by decide +kernel
theorem dX7_countEndings_12 : decode cX7_countEndings 12 = .ok (.ireturn, 1) := by decide +kernel
theorem dX8_init_0 : decode cX8_init 0 = .ok (.aload_n 0, 1) := by decide +kernel
theorem dX8_init_1 : decode cX8_init 1 = .ok (.invokespecial 3, 3) := by decide +kernel
theorem dX8_init_4 : decode cX8_init 4 = .ok (.aload_n 0, 1) := by decide +kernel
theorem dX8_init_5 : decode cX8_init 5 = .ok (.bipush 11, 2) := by decide +kernel
theorem dX8_init_7 : decode cX8_init 7 = .ok (.newarray .int, 2) := by decide +kernel
theorem dX8_init_9 : decode cX8_init 9 = .ok (.putfield 9, 3) := by decide +kernel
theorem dX8_init_12 : decode cX8_init 12 = .ok (.aload_n 0, 1) := by decide +kernel
theorem dX8_init_13 : decode cX8_init 13 = .ok (.iconst 0, 1) := by decide +kernel
theorem dX8_init_14 : decode cX8_init 14 = .ok (.putfield 15, 3) := by decide +kernel
theorem dX8_init_17 : decode cX8_init 17 = .ok (.aload_n 0, 1) := by decide +kernel
theorem dX8_init_18 : decode cX8_init 18 = .ok (.bipush 6, 2) := by decide +kernel
theorem dX8_init_20 : decode cX8_init 20 = .ok (.newarray .int, 2) := by decide +kernel
theorem dX8_init_22 : decode cX8_init 22 = .ok (.putfield 19, 3) := by decide +kernel
theorem dX8_init_25 : decode cX8_init 25 = .ok (.return_, 1) := by decide +kernel
theorem dX8_see_0 : decode cX8_see 0 = .ok (.aload_n 0, 1) := by decide +kernel
theorem dX8_see_1 : decode cX8_see 1 = .ok (.getfield 19, 3) := by decide +kernel
theorem dX8_see_4 : decode cX8_see 4 = .ok (.iconst (-1), 1) := by decide +kernel
theorem dX8_see_5 : decode cX8_see 5 = .ok (.iload_n 1, 1) := by decide +kernel
theorem dX8_see_6 : decode cX8_see 6 = .ok (.isub, 1) := by decide +kernel
theorem dX8_see_7 : decode cX8_see 7 = .ok (.iload_n 2, 1) := by decide +kernel
theorem dX8_see_8 : decode cX8_see 8 = .ok (.invokestatic 22, 3) := by decide +kernel
theorem dX8_see_11 : decode cX8_see 11 = .ok (.return_, 1) := by decide +kernel
theorem dX8_measure_0 : decode cX8_measure 0 = .ok (.aload_n 0, 1) := by decide +kernel
theorem dX8_measure_1 : decode cX8_measure 1 = .ok (.iconst 0, 1) := by decide +kernel
theorem dX8_measure_2 : decode cX8_measure 2 = .ok (.putfield 15, 3) := by decide +kernel
theorem dX8_measure_5 : decode cX8_measure 5 = .ok (.iconst 0, 1) := by decide +kernel
theorem dX8_measure_6 : decode cX8_measure 6 = .ok (.istore_n 3, 1) := by decide +kernel
theorem dX8_measure_7 : decode cX8_measure 7 = .ok (.iload_n 3, 1) := by decide +kernel
theorem dX8_measure_8 : decode cX8_measure 8 = .ok (.iload_n 2, 1) := by decide +kernel
theorem dX8_measure_9 : decode cX8_measure 9 = .ok (.if_icmp .ge 80, 3) := by decide +kernel
theorem dX8_measure_12 : decode cX8_measure 12 = .ok (.aload_n 1, 1) := by decide +kernel
theorem dX8_measure_13 : decode cX8_measure 13 = .ok (.iload_n 3, 1) := by decide +kernel
theorem dX8_measure_14 : decode cX8_measure 14 = .ok (.invokestatic 26, 3) := by decide +kernel
theorem dX8_measure_17 : decode cX8_measure 17 = .ok (.istore 4, 2) := by decide +kernel
theorem dX8_measure_19 : decode cX8_measure 19 = .ok (.iload 4, 2) := by decide +kernel
theorem dX8_measure_21 : decode cX8_measure 21 = .ok (.ifCond .lt 12, 3) := by decide +kernel
theorem dX8_measure_24 : decode cX8_measure 24 = .ok (.aload_n 0, 1) := by decide +kernel
theorem dX8_measure_25 : decode cX8_measure 25 = .ok (.iload 4, 2) := by decide +kernel
theorem dX8_measure_27 : decode cX8_measure 27 = .ok (.invokevirtual 30, 3) := by decide +kernel
theorem dX8_measure_30 : decode cX8_measure 30 = .ok (.goto 53, 3) := by decide +kernel
theorem dX8_measure_33 : decode cX8_measure 33 = .ok (.iload 4, 2) := by decide +kernel
theorem dX8_measure_35 : decode cX8_measure 35 = .ok (.bipush (-6), 2) := by decide +kernel
theorem dX8_measure_37 : decode cX8_measure 37 = .ok (.if_icmp .lt 21, 3) := by decide +kernel
theorem dX8_measure_40 : decode cX8_measure 40 = .ok (.aload_n 0, 1) := by decide +kernel
theorem dX8_measure_41 : decode cX8_measure 41 = .ok (.aload_n 0, 1) := by decide +kernel
theorem dX8_measure_42 : decode cX8_measure 42 = .ok (.getfield 19, 3) := by decide +kernel
theorem dX8_measure_45 : decode cX8_measure 45 = .ok (.iconst (-1), 1) := by decide +kernel
theorem dX8_measure_46 : decode cX8_measure 46 = .ok (.iload 4, 2) := by decide +kernel
theorem dX8_measure_48 : decode cX8_measure 48 = .ok (.isub, 1) := by decide +kernel
theorem dX8_measure_49 : decode cX8_measure 49 = .ok (.invokestatic 26, 3) := by decide +kernel
theorem dX8_measure_52 : decode cX8_measure 52 = .ok (.invokevirtual 30, 3) := by decide +kernel
theorem dX8_measure_55 : decode cX8_measure 55 = .ok (.goto 28, 3) := by decide +kernel
theorem dX8_measure_58 : decode cX8_measure 58 = .ok (.aload_n 0, 1) := by decide +kernel
theorem dX8_measure_59 : decode cX8_measure 59 = .ok (.invokevirtual 34, 3) := by decide +kernel
theorem dX8_measure_62 : decode cX8_measure 62 = .ok (.istore 5, 2) := by decide +kernel
theorem dX8_measure_64 : decode cX8_measure 64 = .ok (.aload_n 0, 1) := by decide +kernel
theorem dX8_measure_65 : decode cX8_measure 65 = .ok (.invokevirtual 34, 3) := by decide +kernel
theorem dX8_measure_68 : decode cX8_measure 68 = .ok (.istore 6, 2) := by decide +kernel
theorem dX8_measure_70 : decode cX8_measure 70 = .ok (.aload_n 0, 1) := by decide +kernel
theorem dX8_measure_71 : decode cX8_measure 71 = .ok (.iload 6, 2) := by decide +kernel
theorem dX8_measure_73 : decode cX8_measure 73 = .ok (.iload 4, 2) := by decide +kernel
theorem dX8_measure_75 : decode cX8_measure 75 = .ok (.iload 5, 2) := by decide +kernel
theorem dX8_measure_77 : decode cX8_measure 77 = .ok (.invokestatic 38, 3) := by decide +kernel
theorem dX8_measure_80 : decode cX8_measure 80 = .ok (.invokevirtual 30, 3) := by decide +kernel
theorem dX8_measure_83 : decode cX8_measure 83 = .ok (.iinc 3 1, 3) := by decide +kernel
theorem dX8_measure_86 : decode cX8_measure 86 = .ok (.goto (-79), 3) := by decide +kernel
theorem dX8_measure_89 : decode cX8_measure 89 = .ok (.aload_n 0, 1) := by decide +kernel
theorem dX8_measure_90 : decode cX8_measure 90 = .ok (.invokevirtual 34, 3) := by decide +kernel
theorem dX8_measure_93 : decode cX8_measure 93 = .ok (.ireturn, 1) := by decide +kernel
theorem dX8_push_0 : decode cX8_push 0 = .ok (.aload_n 0, 1) := by decide +kernel
theorem dX8_push_1 : decode cX8_push 1 = .ok (.getfield 9, 3) := by decide +kernel
theorem dX8_push_4 : decode cX8_push 4 = .ok (.aload_n 0, 1) := by decide +kernel
theorem dX8_push_5 : decode cX8_push 5 = .ok (.getfield 15, 3) := by decide +kernel
theorem dX8_push_8 : decode cX8_push 8 = .ok (.iload_n 1, 1) := by decide +kernel
theorem dX8_push_9 : decode cX8_push 9 = .ok (.invokestatic 22, 3) := by decide +kernel
theorem dX8_push_12 : decode cX8_push 12 = .ok (.aload_n 0, 1) := by decide +kernel
theorem dX8_push_13 : decode cX8_push 13 = .ok (.dup, 1) := by decide +kernel
theorem dX8_push_14 : decode cX8_push 14 = .ok (.getfield 15, 3) := by decide +kernel
theorem dX8_push_17 : decode cX8_push 17 = .ok (.iconst 1, 1) := by decide +kernel
theorem dX8_push_18 : decode cX8_push 18 = .ok (.iadd, 1) := by decide +kernel
theorem dX8_push_19 : decode cX8_push 19 = .ok (.putfield 15, 3) := by decide +kernel
theorem dX8_push_22 : decode cX8_push 22 = .ok (.return_, 1) := by decide +kernel
theorem dX8_pop_0 : decode cX8_pop 0 = .ok (.aload_n 0, 1) := by decide +kernel
theorem dX8_pop_1 : decode cX8_pop 1 = .ok (.dup, 1) := by decide +kernel
theorem dX8_pop_2 : decode cX8_pop 2 = .ok (.getfield 15, 3) := by decide +kernel
theorem dX8_pop_5 : decode cX8_pop 5 = .ok (.iconst 1, 1) := by decide +kernel
theorem dX8_pop_6 : decode cX8_pop 6 = .ok (.isub, 1) := by decide +kernel
theorem dX8_pop_7 : decode cX8_pop 7 = .ok (.putfield 15, 3) := by decide +kernel
theorem dX8_pop_10 : decode cX8_pop 10 = .ok (.aload_n 0, 1) := by decide +kernel
theorem dX8_pop_11 : decode cX8_pop 11 = .ok (.getfield 9, 3) := by decide +kernel
theorem dX8_pop_14 : decode cX8_pop 14 = .ok (.aload_n 0, 1) := by decide +kernel
theorem dX8_pop_15 : decode cX8_pop 15 = .ok (.getfield 15, 3) := by decide +kernel
theorem dX8_pop_18 : decode cX8_pop 18 = .ok (.invokestatic 26, 3) := by decide +kernel
theorem dX8_pop_21 : decode cX8_pop 21 = .ok (.ireturn, 1) := by decide +kernel
theorem dX8_join_0 : decode cX8_join 0 = .ok (.iload_n 1, 1) := by decide +kernel
theorem dX8_join_1 : decode cX8_join 1 = .ok (.bipush (-7), 2) := by decide +kernel
theorem dX8_join_3 : decode cX8_join 3 = .ok (.if_icmp .ne 12, 3) := by decide +kernel
theorem dX8_join_6 : decode cX8_join 6 = .ok (.iload_n 0, 1) := by decide +kernel
theorem dX8_join_7 : decode cX8_join 7 = .ok (.i2l, 1) := by decide +kernel
theorem dX8_join_8 : decode cX8_join 8 = .ok (.iload_n 2, 1) := by decide +kernel
theorem dX8_join_9 : decode cX8_join 9 = .ok (.i2l, 1) := by decide +kernel
theorem dX8_join_10 : decode cX8_join 10 = .ok (.ladd, 1) := by decide +kernel
theorem dX8_join_11 : decode cX8_join 11 = .ok (.lstore_n 3, 1) := by decide +kernel
theorem dX8_join_12 : decode cX8_join 12 = .ok (.goto 47, 3) := by decide +kernel
theorem dX8_join_15 : decode cX8_join 15 = .ok (.iload_n 1, 1) := by decide +kernel
theorem dX8_join_16 : decode cX8_join 16 = .ok (.bipush (-8), 2) := by decide +kernel
theorem dX8_join_18 : decode cX8_join 18 = .ok (.if_icmp .ne 12, 3) := by decide +kernel
theorem dX8_join_21 : decode cX8_join 21 = .ok (.iload_n 0, 1) := by decide +kernel
theorem dX8_join_22 : decode cX8_join 22 = .ok (.i2l, 1) := by decide +kernel
theorem dX8_join_23 : decode cX8_join 23 = .ok (.iload_n 2, 1) := by decide +kernel
theorem dX8_join_24 : decode cX8_join 24 = .ok (.i2l, 1) := by decide +kernel
theorem dX8_join_25 : decode cX8_join 25 = .ok (.lsub, 1) := by decide +kernel
theorem dX8_join_26 : decode cX8_join 26 = .ok (.lstore_n 3, 1) := by decide +kernel
theorem dX8_join_27 : decode cX8_join 27 = .ok (.goto 32, 3) := by decide +kernel
theorem dX8_join_30 : decode cX8_join 30 = .ok (.iload_n 1, 1) := by decide +kernel
theorem dX8_join_31 : decode cX8_join 31 = .ok (.bipush (-9), 2) := by decide +kernel
theorem dX8_join_33 : decode cX8_join 33 = .ok (.if_icmp .ne 12, 3) := by decide +kernel
theorem dX8_join_36 : decode cX8_join 36 = .ok (.iload_n 0, 1) := by decide +kernel
theorem dX8_join_37 : decode cX8_join 37 = .ok (.i2l, 1) := by decide +kernel
theorem dX8_join_38 : decode cX8_join 38 = .ok (.iload_n 2, 1) := by decide +kernel
theorem dX8_join_39 : decode cX8_join 39 = .ok (.i2l, 1) := by decide +kernel
theorem dX8_join_40 : decode cX8_join 40 = .ok (.lmul, 1) := by decide +kernel
theorem dX8_join_41 : decode cX8_join 41 = .ok (.lstore_n 3, 1) := by decide +kernel
theorem dX8_join_42 : decode cX8_join 42 = .ok (.goto 17, 3) := by decide +kernel
theorem dX8_join_45 : decode cX8_join 45 = .ok (.iload_n 2, 1) := by decide +kernel
theorem dX8_join_46 : decode cX8_join 46 = .ok (.ifCond .ne 7, 3) := by decide +kernel
theorem dX8_join_49 : decode cX8_join 49 = .ok (.lconst 0, 1) := by decide +kernel
theorem dX8_join_50 : decode cX8_join 50 = .ok (.goto 8, 3) := by decide +kernel
theorem dX8_join_53 : decode cX8_join 53 = .ok (.iload_n 0, 1) := by decide +kernel
theorem dX8_join_54 : decode cX8_join 54 = .ok (.i2l, 1) := by decide +kernel
theorem dX8_join_55 : decode cX8_join 55 = .ok (.iload_n 2, 1) := by decide +kernel
theorem dX8_join_56 : decode cX8_join 56 = .ok (.i2l, 1) := by decide +kernel
theorem dX8_join_57 : decode cX8_join 57 = .ok (.ldiv, 1) := by decide +kernel
theorem dX8_join_58 : decode cX8_join 58 = .ok (.lstore_n 3, 1) := by decide +kernel
theorem dX8_join_59 : decode cX8_join 59 = .ok (.ldc2_w 42, 3) := by decide +kernel
theorem dX8_join_62 : decode cX8_join 62 = .ok (.ldc2_w 44, 3) := by decide +kernel
theorem dX8_join_65 : decode cX8_join 65 = .ok (.lload_n 3, 1) := by decide +kernel
theorem dX8_join_66 : decode cX8_join 66 = .ok (.invokestatic 46, 3) := by decide +kernel
theorem dX8_join_69 : decode cX8_join 69 = .ok (.invokestatic 52, 3) := by decide +kernel
theorem dX8_join_72 : decode cX8_join 72 = .ok (.l2i, 1) := by decide +kernel
theorem dX8_join_73 : decode cX8_join 73 = .ok (.ireturn, 1) := by decide +kernel
theorem dX9_init_0 : decode cX9_init 0 = .ok (.aload_n 0, 1) := by decide +kernel
theorem dX9_init_1 : decode cX9_init 1 = .ok (.invokespecial 3, 3) := by decide +kernel
theorem dX9_init_4 : decode cX9_init 4 = .ok (.return_, 1) := by decide +kernel
theorem dX9_readSum_0 : decode cX9_readSum 0 = .ok (.aload_n 0, 1) := by decide +kernel
theorem dX9_readSum_1 : decode cX9_readSum 1 = .ok (.aload_n 1, 1) := by decide +kernel
theorem dX9_readSum_2 : decode cX9_readSum 2 = .ok (.aload_n 2, 1) := by decide +kernel
theorem dX9_readSum_3 : decode cX9_readSum 3 = .ok (.iload_n 3, 1) := by decide +kernel
theorem dX9_readSum_4 : decode cX9_readSum 4 = .ok (.invokevirtual 9, 3) := by decide +kernel
theorem dX9_readSum_7 : decode cX9_readSum 7 = .ok (.iconst 0, 1) := by decide +kernel
theorem dX9_readSum_8 : decode cX9_readSum 8 = .ok (.istore 4, 2) := by decide +kernel
theorem dX9_readSum_10 : decode cX9_readSum 10 = .ok (.iload 4, 2) := by decide +kernel
theorem dX9_readSum_12 : decode cX9_readSum 12 = .ok (.sipush 800, 3) := by decide +kernel
theorem dX9_readSum_15 : decode cX9_readSum 15 = .ok (.if_icmp .ge 52, 3) := by decide +kernel
theorem dX9_readSum_18 : decode cX9_readSum 18 = .ok (.aload_n 1, 1) := by decide +kernel
theorem dX9_readSum_19 : decode cX9_readSum 19 = .ok (.invokevirtual 15, 3) := by decide +kernel
theorem dX9_readSum_22 : decode cX9_readSum 22 = .ok (.astore 5, 2) := by decide +kernel
theorem dX9_readSum_24 : decode cX9_readSum 24 = .ok (.aload 5, 2) := by decide +kernel
theorem dX9_readSum_26 : decode cX9_readSum 26 = .ok (.getstatic 21, 3) := by decide +kernel
theorem dX9_readSum_29 : decode cX9_readSum 29 = .ok (.if_acmp .eq 12, 3) := by decide +kernel
theorem dX9_readSum_32 : decode cX9_readSum 32 = .ok (.aload 5, 2) := by decide +kernel
theorem dX9_readSum_34 : decode cX9_readSum 34 = .ok (.getstatic 27, 3) := by decide +kernel
theorem dX9_readSum_37 : decode cX9_readSum 37 = .ok (.if_acmp .eq 4, 3) := by decide +kernel
theorem dX9_readSum_40 : decode cX9_readSum 40 = .ok (.return_, 1) := by decide +kernel
theorem dX9_readSum_41 : decode cX9_readSum 41 = .ok (.aload_n 1, 1) := by decide +kernel
theorem dX9_readSum_42 : decode cX9_readSum 42 = .ok (.invokevirtual 30, 3) := by decide +kernel
theorem dX9_readSum_45 : decode cX9_readSum 45 = .ok (.aload_n 0, 1) := by decide +kernel
theorem dX9_readSum_46 : decode cX9_readSum 46 = .ok (.aload_n 1, 1) := by decide +kernel
theorem dX9_readSum_47 : decode cX9_readSum 47 = .ok (.aload_n 2, 1) := by decide +kernel
theorem dX9_readSum_48 : decode cX9_readSum 48 = .ok (.iload_n 3, 1) := by decide +kernel
theorem dX9_readSum_49 : decode cX9_readSum 49 = .ok (.invokevirtual 9, 3) := by decide +kernel
theorem dX9_readSum_52 : decode cX9_readSum 52 = .ok (.aload_n 2, 1) := by decide +kernel
theorem dX9_readSum_53 : decode cX9_readSum 53 = .ok (.aload 5, 2) := by decide +kernel
theorem dX9_readSum_55 : decode cX9_readSum 55 = .ok (.getfield 33, 3) := by decide +kernel
theorem dX9_readSum_58 : decode cX9_readSum 58 = .ok (.invokevirtual 37, 3) := by decide +kernel
theorem dX9_readSum_61 : decode cX9_readSum 61 = .ok (.iinc 4 1, 3) := by decide +kernel
theorem dX9_readSum_64 : decode cX9_readSum 64 = .ok (.goto (-54), 3) := by decide +kernel
theorem dX9_readSum_67 : decode cX9_readSum 67 = .ok (.return_, 1) := by decide +kernel
theorem dX9_readTerm_0 : decode cX9_readTerm 0 = .ok (.aload_n 0, 1) := by decide +kernel
theorem dX9_readTerm_1 : decode cX9_readTerm 1 = .ok (.aload_n 1, 1) := by decide +kernel
theorem dX9_readTerm_2 : decode cX9_readTerm 2 = .ok (.aload_n 2, 1) := by decide +kernel
theorem dX9_readTerm_3 : decode cX9_readTerm 3 = .ok (.iload_n 3, 1) := by decide +kernel
theorem dX9_readTerm_4 : decode cX9_readTerm 4 = .ok (.invokevirtual 43, 3) := by decide +kernel
theorem dX9_readTerm_7 : decode cX9_readTerm 7 = .ok (.iconst 0, 1) := by decide +kernel
theorem dX9_readTerm_8 : decode cX9_readTerm 8 = .ok (.istore 4, 2) := by decide +kernel
theorem dX9_readTerm_10 : decode cX9_readTerm 10 = .ok (.iload 4, 2) := by decide +kernel
theorem dX9_readTerm_12 : decode cX9_readTerm 12 = .ok (.sipush 800, 3) := by decide +kernel
theorem dX9_readTerm_15 : decode cX9_readTerm 15 = .ok (.if_icmp .ge 52, 3) := by decide +kernel
theorem dX9_readTerm_18 : decode cX9_readTerm 18 = .ok (.aload_n 1, 1) := by decide +kernel
theorem dX9_readTerm_19 : decode cX9_readTerm 19 = .ok (.invokevirtual 15, 3) := by decide +kernel
theorem dX9_readTerm_22 : decode cX9_readTerm 22 = .ok (.astore 5, 2) := by decide +kernel
theorem dX9_readTerm_24 : decode cX9_readTerm 24 = .ok (.aload 5, 2) := by decide +kernel
theorem dX9_readTerm_26 : decode cX9_readTerm 26 = .ok (.getstatic 46, 3) := by decide +kernel
theorem dX9_readTerm_29 : decode cX9_readTerm 29 = .ok (.if_acmp .eq 12, 3) := by decide +kernel
theorem dX9_readTerm_32 : decode cX9_readTerm 32 = .ok (.aload 5, 2) := by decide +kernel
theorem dX9_readTerm_34 : decode cX9_readTerm 34 = .ok (.getstatic 49, 3) := by decide +kernel
theorem dX9_readTerm_37 : decode cX9_readTerm 37 = .ok (.if_acmp .eq 4, 3) := by decide +kernel
theorem dX9_readTerm_40 : decode cX9_readTerm 40 = .ok (.return_, 1) := by decide +kernel
theorem dX9_readTerm_41 : decode cX9_readTerm 41 = .ok (.aload_n 1, 1) := by decide +kernel
theorem dX9_readTerm_42 : decode cX9_readTerm 42 = .ok (.invokevirtual 30, 3) := by decide +kernel
theorem dX9_readTerm_45 : decode cX9_readTerm 45 = .ok (.aload_n 0, 1) := by decide +kernel
theorem dX9_readTerm_46 : decode cX9_readTerm 46 = .ok (.aload_n 1, 1) := by decide +kernel
theorem dX9_readTerm_47 : decode cX9_readTerm 47 = .ok (.aload_n 2, 1) := by decide +kernel
theorem dX9_readTerm_48 : decode cX9_readTerm 48 = .ok (.iload_n 3, 1) := by decide +kernel
theorem dX9_readTerm_49 : decode cX9_readTerm 49 = .ok (.invokevirtual 43, 3) := by decide +kernel
theorem dX9_readTerm_52 : decode cX9_readTerm 52 = .ok (.aload_n 2, 1) := by decide +kernel
theorem dX9_readTerm_53 : decode cX9_readTerm 53 = .ok (.aload 5, 2) := by decide +kernel
theorem dX9_readTerm_55 : decode cX9_readTerm 55 = .ok (.getfield 33, 3) := by decide +kernel
theorem dX9_readTerm_58 : decode cX9_readTerm 58 = .ok (.invokevirtual 37, 3) := by decide +kernel
theorem dX9_readTerm_61 : decode cX9_readTerm 61 = .ok (.iinc 4 1, 3) := by decide +kernel
theorem dX9_readTerm_64 : decode cX9_readTerm 64 = .ok (.goto (-54), 3) := by decide +kernel
theorem dX9_readTerm_67 : decode cX9_readTerm 67 = .ok (.return_, 1) := by decide +kernel
theorem dX9_readFactor_0 : decode cX9_readFactor 0 = .ok (.aload_n 1, 1) := by decide +kernel
theorem dX9_readFactor_1 : decode cX9_readFactor 1 = .ok (.invokevirtual 15, 3) := by decide +kernel
theorem dX9_readFactor_4 : decode cX9_readFactor 4 = .ok (.astore 4, 2) := by decide +kernel
theorem dX9_readFactor_6 : decode cX9_readFactor 6 = .ok (.aload 4, 2) := by decide +kernel
theorem dX9_readFactor_8 : decode cX9_readFactor 8 = .ok (.getstatic 52, 3) := by decide +kernel
theorem dX9_readFactor_11 : decode cX9_readFactor 11 = .ok (.if_acmp .ne 18, 3) := by decide +kernel
theorem dX9_readFactor_14 : decode cX9_readFactor 14 = .ok (.aload_n 2, 1) := by decide +kernel
theorem dX9_readFactor_15 : decode cX9_readFactor 15 = .ok (.aload_n 1, 1) := by decide +kernel
theorem dX9_readFactor_16 : decode cX9_readFactor 16 = .ok (.iconst 0, 1) := by decide +kernel
theorem dX9_readFactor_17 : decode cX9_readFactor 17 = .ok (.sipush 9999, 3) := by decide +kernel
theorem dX9_readFactor_20 : decode cX9_readFactor 20 = .ok (.invokevirtual 55, 3) := by decide +kernel
theorem dX9_readFactor_23 : decode cX9_readFactor 23 = .ok (.invokevirtual 37, 3) := by decide +kernel
theorem dX9_readFactor_26 : decode cX9_readFactor 26 = .ok (.goto 51, 3) := by decide +kernel
theorem dX9_readFactor_29 : decode cX9_readFactor 29 = .ok (.aload 4, 2) := by decide +kernel
theorem dX9_readFactor_31 : decode cX9_readFactor 31 = .ok (.invokevirtual 59, 3) := by decide +kernel
theorem dX9_readFactor_34 : decode cX9_readFactor 34 = .ok (.ifCond .eq 19, 3) := by decide +kernel
theorem dX9_readFactor_37 : decode cX9_readFactor 37 = .ok (.aload_n 2, 1) := by decide +kernel
theorem dX9_readFactor_38 : decode cX9_readFactor 38 = .ok (.aload 4, 2) := by decide +kernel
theorem dX9_readFactor_40 : decode cX9_readFactor 40 = .ok (.getfield 33, 3) := by decide +kernel
theorem dX9_readFactor_43 : decode cX9_readFactor 43 = .ok (.invokevirtual 37, 3) := by decide +kernel
theorem dX9_readFactor_46 : decode cX9_readFactor 46 = .ok (.aload_n 1, 1) := by decide +kernel
theorem dX9_readFactor_47 : decode cX9_readFactor 47 = .ok (.invokevirtual 30, 3) := by decide +kernel
theorem dX9_readFactor_50 : decode cX9_readFactor 50 = .ok (.goto 27, 3) := by decide +kernel
theorem dX9_readFactor_53 : decode cX9_readFactor 53 = .ok (.aload_n 1, 1) := by decide +kernel
theorem dX9_readFactor_54 : decode cX9_readFactor 54 = .ok (.iload_n 3, 1) := by decide +kernel
theorem dX9_readFactor_55 : decode cX9_readFactor 55 = .ok (.invokevirtual 63, 3) := by decide +kernel
theorem dX9_readFactor_58 : decode cX9_readFactor 58 = .ok (.ifCond .eq 19, 3) := by decide +kernel
theorem dX9_readFactor_61 : decode cX9_readFactor 61 = .ok (.aload_n 0, 1) := by decide +kernel
theorem dX9_readFactor_62 : decode cX9_readFactor 62 = .ok (.aload_n 1, 1) := by decide +kernel
theorem dX9_readFactor_63 : decode cX9_readFactor 63 = .ok (.aload_n 2, 1) := by decide +kernel
theorem dX9_readFactor_64 : decode cX9_readFactor 64 = .ok (.iload_n 3, 1) := by decide +kernel
theorem dX9_readFactor_65 : decode cX9_readFactor 65 = .ok (.iconst 1, 1) := by decide +kernel
theorem dX9_readFactor_66 : decode cX9_readFactor 66 = .ok (.iadd, 1) := by decide +kernel
theorem dX9_readFactor_67 : decode cX9_readFactor 67 = .ok (.invokevirtual 67, 3) := by decide +kernel
theorem dX9_readFactor_70 : decode cX9_readFactor 70 = .ok (.aload_n 1, 1) := by decide +kernel
theorem dX9_readFactor_71 : decode cX9_readFactor 71 = .ok (.getstatic 70, 3) := by decide +kernel
theorem dX9_readFactor_74 : decode cX9_readFactor 74 = .ok (.invokevirtual 73, 3) := by decide +kernel
theorem dX9_readFactor_77 : decode cX9_readFactor 77 = .ok (.return_, 1) := by decide +kernel
theorem dX10_init_0 : decode cX10_init 0 = .ok (.aload_n 0, 1) := by decide +kernel
theorem dX10_init_1 : decode cX10_init 1 = .ok (.invokespecial 3, 3) := by decide +kernel
theorem dX10_init_4 : decode cX10_init 4 = .ok (.aload_n 0, 1) := by decide +kernel
theorem dX10_init_5 : decode cX10_init 5 = .ok (.sipush 800, 3) := by decide +kernel
theorem dX10_init_8 : decode cX10_init 8 = .ok (.newarray .int, 2) := by decide +kernel
theorem dX10_init_10 : decode cX10_init 10 = .ok (.putfield 9, 3) := by decide +kernel
theorem dX10_init_13 : decode cX10_init 13 = .ok (.aload_n 0, 1) := by decide +kernel
theorem dX10_init_14 : decode cX10_init 14 = .ok (.iconst 0, 1) := by decide +kernel
theorem dX10_init_15 : decode cX10_init 15 = .ok (.putfield 13, 3) := by decide +kernel
theorem dX10_init_18 : decode cX10_init 18 = .ok (.aload_n 0, 1) := by decide +kernel
theorem dX10_init_19 : decode cX10_init 19 = .ok (.iconst (-1), 1) := by decide +kernel
theorem dX10_init_20 : decode cX10_init 20 = .ok (.putfield 17, 3) := by decide +kernel
theorem dX10_init_23 : decode cX10_init 23 = .ok (.aload_n 0, 1) := by decide +kernel
theorem dX10_init_24 : decode cX10_init 24 = .ok (.new 20, 3) := by decide +kernel
theorem dX10_init_27 : decode cX10_init 27 = .ok (.dup, 1) := by decide +kernel
theorem dX10_init_28 : decode cX10_init 28 = .ok (.invokespecial 22, 3) := by decide +kernel
theorem dX10_init_31 : decode cX10_init 31 = .ok (.putfield 23, 3) := by decide +kernel
theorem dX10_init_34 : decode cX10_init 34 = .ok (.aload_n 0, 1) := by decide +kernel
theorem dX10_init_35 : decode cX10_init 35 = .ok (.new 20, 3) := by decide +kernel
theorem dX10_init_38 : decode cX10_init 38 = .ok (.dup, 1) := by decide +kernel
theorem dX10_init_39 : decode cX10_init 39 = .ok (.invokespecial 22, 3) := by decide +kernel
theorem dX10_init_42 : decode cX10_init 42 = .ok (.putfield 27, 3) := by decide +kernel
theorem dX10_init_45 : decode cX10_init 45 = .ok (.aload_n 0, 1) := by decide +kernel
theorem dX10_init_46 : decode cX10_init 46 = .ok (.new 30, 3) := by decide +kernel
theorem dX10_init_49 : decode cX10_init 49 = .ok (.dup, 1) := by decide +kernel
theorem dX10_init_50 : decode cX10_init 50 = .ok (.invokespecial 32, 3) := by decide +kernel
theorem dX10_init_53 : decode cX10_init 53 = .ok (.putfield 33, 3) := by decide +kernel
theorem dX10_init_56 : decode cX10_init 56 = .ok (.aload_n 0, 1) := by decide +kernel
theorem dX10_init_57 : decode cX10_init 57 = .ok (.new 37, 3) := by decide +kernel
theorem dX10_init_60 : decode cX10_init 60 = .ok (.dup, 1) := by decide +kernel
theorem dX10_init_61 : decode cX10_init 61 = .ok (.invokespecial 39, 3) := by decide +kernel
theorem dX10_init_64 : decode cX10_init 64 = .ok (.putfield 40, 3) := by decide +kernel
theorem dX10_init_67 : decode cX10_init 67 = .ok (.aload_n 0, 1) := by decide +kernel
theorem dX10_init_68 : decode cX10_init 68 = .ok (.new 44, 3) := by decide +kernel
theorem dX10_init_71 : decode cX10_init 71 = .ok (.dup, 1) := by decide +kernel
theorem dX10_init_72 : decode cX10_init 72 = .ok (.invokespecial 46, 3) := by decide +kernel
theorem dX10_init_75 : decode cX10_init 75 = .ok (.putfield 47, 3) := by decide +kernel
theorem dX10_init_78 : decode cX10_init 78 = .ok (.aload_n 0, 1) := by decide +kernel
theorem dX10_init_79 : decode cX10_init 79 = .ok (.new 51, 3) := by decide +kernel
theorem dX10_init_82 : decode cX10_init 82 = .ok (.dup, 1) := by decide +kernel
theorem dX10_init_83 : decode cX10_init 83 = .ok (.invokespecial 53, 3) := by decide +kernel
theorem dX10_init_86 : decode cX10_init 86 = .ok (.putfield 54, 3) := by decide +kernel
theorem dX10_init_89 : decode cX10_init 89 = .ok (.return_, 1) := by decide +kernel
theorem dX10_append_0 : decode cX10_append 0 = .ok (.aload_n 0, 1) := by decide +kernel
theorem dX10_append_1 : decode cX10_append 1 = .ok (.getfield 13, 3) := by decide +kernel
theorem dX10_append_4 : decode cX10_append 4 = .ok (.bipush 20, 2) := by decide +kernel
theorem dX10_append_6 : decode cX10_append 6 = .ok (.iadd, 1) := by decide +kernel
theorem dX10_append_7 : decode cX10_append 7 = .ok (.sipush 800, 3) := by decide +kernel
theorem dX10_append_10 : decode cX10_append 10 = .ok (.if_icmp .le 5, 3) := by decide +kernel
theorem dX10_append_13 : decode cX10_append 13 = .ok (.iconst (-1), 1) := by decide +kernel
theorem dX10_append_14 : decode cX10_append 14 = .ok (.ireturn, 1) := by decide +kernel
theorem dX10_append_15 : decode cX10_append 15 = .ok (.aload_n 0, 1) := by decide +kernel
theorem dX10_append_16 : decode cX10_append 16 = .ok (.iload_n 1, 1) := by decide +kernel
theorem dX10_append_17 : decode cX10_append 17 = .ok (.invokevirtual 58, 3) := by decide +kernel
theorem dX10_append_20 : decode cX10_append 20 = .ok (.aload_n 0, 1) := by decide +kernel
theorem dX10_append_21 : decode cX10_append 21 = .ok (.iload_n 2, 1) := by decide +kernel
theorem dX10_append_22 : decode cX10_append 22 = .ok (.invokevirtual 58, 3) := by decide +kernel
theorem dX10_append_25 : decode cX10_append 25 = .ok (.aload_n 0, 1) := by decide +kernel
theorem dX10_append_26 : decode cX10_append 26 = .ok (.iload_n 3, 1) := by decide +kernel
theorem dX10_append_27 : decode cX10_append 27 = .ok (.invokevirtual 58, 3) := by decide +kernel
theorem dX10_append_30 : decode cX10_append 30 = .ok (.aload_n 0, 1) := by decide +kernel
theorem dX10_append_31 : decode cX10_append 31 = .ok (.iload 4, 2) := by decide +kernel
theorem dX10_append_33 : decode cX10_append 33 = .ok (.invokevirtual 58, 3) := by decide +kernel
theorem dX10_append_36 : decode cX10_append 36 = .ok (.aload_n 0, 1) := by decide +kernel
theorem dX10_append_37 : decode cX10_append 37 = .ok (.iload 5, 2) := by decide +kernel
theorem dX10_append_39 : decode cX10_append 39 = .ok (.invokevirtual 58, 3) := by decide +kernel
theorem dX10_append_42 : decode cX10_append 42 = .ok (.aload_n 0, 1) := by decide +kernel
theorem dX10_append_43 : decode cX10_append 43 = .ok (.getfield 13, 3) := by decide +kernel
theorem dX10_append_46 : decode cX10_append 46 = .ok (.ireturn, 1) := by decide +kernel
theorem dX10_appendWord_0 : decode cX10_appendWord 0 = .ok (.bipush 24, 2) := by decide +kernel
theorem dX10_appendWord_2 : decode cX10_appendWord 2 = .ok (.istore_n 2, 1) := by decide +kernel
theorem dX10_appendWord_3 : decode cX10_appendWord 3 = .ok (.iload_n 2, 1) := by decide +kernel
theorem dX10_appendWord_4 : decode cX10_appendWord 4 = .ok (.ifCond .lt 37, 3) := by decide +kernel
theorem dX10_appendWord_7 : decode cX10_appendWord 7 = .ok (.aload_n 0, 1) := by decide +kernel
theorem dX10_appendWord_8 : decode cX10_appendWord 8 = .ok (.getfield 9, 3) := by decide +kernel
theorem dX10_appendWord_11 : decode cX10_appendWord 11 = .ok (.aload_n 0, 1) := by decide +kernel
theorem dX10_appendWord_12 : decode cX10_appendWord 12 = .ok (.getfield 13, 3) := by decide +kernel
theorem dX10_appendWord_15 : decode cX10_appendWord 15 = .ok (.iload_n 1, 1) := by decide +kernel
theorem dX10_appendWord_16 : decode cX10_appendWord 16 = .ok (.iload_n 2, 1) := by decide +kernel
theorem dX10_appendWord_17 : decode cX10_appendWord 17 = .ok (.iushr, 1) := by decide +kernel
theorem dX10_appendWord_18 : decode cX10_appendWord 18 = .ok (.sipush 255, 3) := by decide +kernel
theorem dX10_appendWord_21 : decode cX10_appendWord 21 = .ok (.iand, 1) := by decide +kernel
theorem dX10_appendWord_22 : decode cX10_appendWord 22 = .ok (.invokestatic 62, 3) := by decide +kernel
theorem dX10_appendWord_25 : decode cX10_appendWord 25 = .ok (.aload_n 0, 1) := by decide +kernel
theorem dX10_appendWord_26 : decode cX10_appendWord 26 = .ok (.dup, 1) := by decide +kernel
theorem dX10_appendWord_27 : decode cX10_appendWord 27 = .ok (.getfield 13, 3) := by decide +kernel
theorem dX10_appendWord_30 : decode cX10_appendWord 30 = .ok (.iconst 1, 1) := by decide +kernel
theorem dX10_appendWord_31 : decode cX10_appendWord 31 = .ok (.iadd, 1) := by decide +kernel
theorem dX10_appendWord_32 : decode cX10_appendWord 32 = .ok (.putfield 13, 3) := by decide +kernel
theorem dX10_appendWord_35 : decode cX10_appendWord 35 = .ok (.iinc 2 (-8), 3) := by decide +kernel
theorem dX10_appendWord_38 : decode cX10_appendWord 38 = .ok (.goto (-35), 3) := by decide +kernel
theorem dX10_appendWord_41 : decode cX10_appendWord 41 = .ok (.return_, 1) := by decide +kernel
theorem dX10_load_0 : decode cX10_load 0 = .ok (.iload_n 1, 1) := by decide +kernel
theorem dX10_load_1 : decode cX10_load 1 = .ok (.ifCond .lt 11, 3) := by decide +kernel
theorem dX10_load_4 : decode cX10_load 4 = .ok (.iload_n 1, 1) := by decide +kernel
theorem dX10_load_5 : decode cX10_load 5 = .ok (.aload_n 0, 1) := by decide +kernel
theorem dX10_load_6 : decode cX10_load 6 = .ok (.getfield 13, 3) := by decide +kernel
theorem dX10_load_9 : decode cX10_load 9 = .ok (.if_icmp .le 11, 3) := by decide +kernel
theorem dX10_load_12 : decode cX10_load 12 = .ok (.new 66, 3) := by decide +kernel
theorem dX10_load_15 : decode cX10_load 15 = .ok (.dup, 1) := by decide +kernel
theorem dX10_load_16 : decode cX10_load 16 = .ok (.invokespecial 68, 3) := by decide +kernel
theorem dX10_load_19 : decode cX10_load 19 = .ok (.athrow, 1) := by decide +kernel
theorem dX10_load_20 : decode cX10_load 20 = .ok (.aload_n 0, 1) := by decide +kernel
theorem dX10_load_21 : decode cX10_load 21 = .ok (.iconst 0, 1) := by decide +kernel
theorem dX10_load_22 : decode cX10_load 22 = .ok (.putfield 13, 3) := by decide +kernel
theorem dX10_load_25 : decode cX10_load 25 = .ok (.aload_n 0, 1) := by decide +kernel
theorem dX10_load_26 : decode cX10_load 26 = .ok (.getfield 40, 3) := by decide +kernel
theorem dX10_load_29 : decode cX10_load 29 = .ok (.aload_n 0, 1) := by decide +kernel
theorem dX10_load_30 : decode cX10_load 30 = .ok (.getfield 9, 3) := by decide +kernel
theorem dX10_load_33 : decode cX10_load 33 = .ok (.iload_n 1, 1) := by decide +kernel
theorem dX10_load_34 : decode cX10_load 34 = .ok (.aload_n 0, 1) := by decide +kernel
theorem dX10_load_35 : decode cX10_load 35 = .ok (.getfield 27, 3) := by decide +kernel
theorem dX10_load_38 : decode cX10_load 38 = .ok (.invokevirtual 69, 3) := by decide +kernel
theorem dX10_load_41 : decode cX10_load 41 = .ok (.istore_n 2, 1) := by decide +kernel
theorem dX10_load_42 : decode cX10_load 42 = .ok (.aload_n 0, 1) := by decide +kernel
theorem dX10_load_43 : decode cX10_load 43 = .ok (.aload_n 0, 1) := by decide +kernel
theorem dX10_load_44 : decode cX10_load 44 = .ok (.getfield 40, 3) := by decide +kernel
theorem dX10_load_47 : decode cX10_load 47 = .ok (.invokevirtual 73, 3) := by decide +kernel
theorem dX10_load_50 : decode cX10_load 50 = .ok (.putfield 17, 3) := by decide +kernel
theorem dX10_load_53 : decode cX10_load 53 = .ok (.iload_n 2, 1) := by decide +kernel
theorem dX10_load_54 : decode cX10_load 54 = .ok (.ifCond .eq 5, 3) := by decide +kernel
theorem dX10_load_57 : decode cX10_load 57 = .ok (.iload_n 2, 1) := by decide +kernel
theorem dX10_load_58 : decode cX10_load 58 = .ok (.ireturn, 1) := by decide +kernel
theorem dX10_load_59 : decode cX10_load 59 = .ok (.aload_n 0, 1) := by decide +kernel
theorem dX10_load_60 : decode cX10_load 60 = .ok (.getfield 33, 3) := by decide +kernel
theorem dX10_load_63 : decode cX10_load 63 = .ok (.aload_n 0, 1) := by decide +kernel
theorem dX10_load_64 : decode cX10_load 64 = .ok (.getfield 23, 3) := by decide +kernel
theorem dX10_load_67 : decode cX10_load 67 = .ok (.invokevirtual 77, 3) := by decide +kernel
theorem dX10_load_70 : decode cX10_load 70 = .ok (.aload_n 0, 1) := by decide +kernel
theorem dX10_load_71 : decode cX10_load 71 = .ok (.getfield 23, 3) := by decide +kernel
theorem dX10_load_74 : decode cX10_load 74 = .ok (.aload_n 0, 1) := by decide +kernel
theorem dX10_load_75 : decode cX10_load 75 = .ok (.getfield 27, 3) := by decide +kernel
theorem dX10_load_78 : decode cX10_load 78 = .ok (.invokevirtual 81, 3) := by decide +kernel
theorem dX10_load_81 : decode cX10_load 81 = .ok (.aload_n 0, 1) := by decide +kernel
theorem dX10_load_82 : decode cX10_load 82 = .ok (.getfield 23, 3) := by decide +kernel
theorem dX10_load_85 : decode cX10_load 85 = .ok (.getfield 84, 3) := by decide +kernel
theorem dX10_load_88 : decode cX10_load 88 = .ok (.ireturn, 1) := by decide +kernel
theorem dX10_state_0 : decode cX10_state 0 = .ok (.iload_n 1, 1) := by decide +kernel
theorem dX10_state_1 : decode cX10_state 1 = .ok (.ifCond .lt 9, 3) := by decide +kernel
theorem dX10_state_4 : decode cX10_state 4 = .ok (.iload_n 1, 1) := by decide +kernel
theorem dX10_state_5 : decode cX10_state 5 = .ok (.bipush 8, 2) := by decide +kernel
theorem dX10_state_7 : decode cX10_state 7 = .ok (.if_icmp .le 11, 3) := by decide +kernel
theorem dX10_state_10 : decode cX10_state 10 = .ok (.new 66, 3) := by decide +kernel
theorem dX10_state_13 : decode cX10_state 13 = .ok (.dup, 1) := by decide +kernel
theorem dX10_state_14 : decode cX10_state 14 = .ok (.invokespecial 68, 3) := by decide +kernel
theorem dX10_state_17 : decode cX10_state 17 = .ok (.athrow, 1) := by decide +kernel
theorem dX10_state_18 : decode cX10_state 18 = .ok (.iload_n 1, 1) := by decide +kernel
theorem dX10_state_19 : decode cX10_state 19 = .ok (.ifCond .ne 11, 3) := by decide +kernel
theorem dX10_state_22 : decode cX10_state 22 = .ok (.aload_n 0, 1) := by decide +kernel
theorem dX10_state_23 : decode cX10_state 23 = .ok (.getfield 23, 3) := by decide +kernel
theorem dX10_state_26 : decode cX10_state 26 = .ok (.getfield 84, 3) := by decide +kernel
theorem dX10_state_29 : decode cX10_state 29 = .ok (.ireturn, 1) := by decide +kernel
theorem dX10_state_30 : decode cX10_state 30 = .ok (.iload_n 1, 1) := by decide +kernel
theorem dX10_state_31 : decode cX10_state 31 = .ok (.bipush 6, 2) := by decide +kernel
theorem dX10_state_33 : decode cX10_state 33 = .ok (.if_icmp .ne 11, 3) := by decide +kernel
theorem dX10_state_36 : decode cX10_state 36 = .ok (.aload_n 0, 1) := by decide +kernel
theorem dX10_state_37 : decode cX10_state 37 = .ok (.getfield 23, 3) := by decide +kernel
theorem dX10_state_40 : decode cX10_state 40 = .ok (.getfield 87, 3) := by decide +kernel
theorem dX10_state_43 : decode cX10_state 43 = .ok (.ireturn, 1) := by decide +kernel
theorem dX10_state_44 : decode cX10_state 44 = .ok (.iload_n 1, 1) := by decide +kernel
theorem dX10_state_45 : decode cX10_state 45 = .ok (.bipush 7, 2) := by decide +kernel
theorem dX10_state_47 : decode cX10_state 47 = .ok (.if_icmp .ne 11, 3) := by decide +kernel
theorem dX10_state_50 : decode cX10_state 50 = .ok (.aload_n 0, 1) := by decide +kernel
theorem dX10_state_51 : decode cX10_state 51 = .ok (.getfield 23, 3) := by decide +kernel
theorem dX10_state_54 : decode cX10_state 54 = .ok (.getfield 90, 3) := by decide +kernel
theorem dX10_state_57 : decode cX10_state 57 = .ok (.ireturn, 1) := by decide +kernel
theorem dX10_state_58 : decode cX10_state 58 = .ok (.iconst 0, 1) := by decide +kernel
theorem dX10_state_59 : decode cX10_state 59 = .ok (.istore_n 2, 1) := by decide +kernel
theorem dX10_state_60 : decode cX10_state 60 = .ok (.iconst 0, 1) := by decide +kernel
theorem dX10_state_61 : decode cX10_state 61 = .ok (.istore_n 3, 1) := by decide +kernel
theorem dX10_state_62 : decode cX10_state 62 = .ok (.iload_n 3, 1) := by decide +kernel
theorem dX10_state_63 : decode cX10_state 63 = .ok (.aload_n 0, 1) := by decide +kernel
theorem dX10_state_64 : decode cX10_state 64 = .ok (.getfield 23, 3) := by decide +kernel
theorem dX10_state_67 : decode cX10_state 67 = .ok (.getfield 84, 3) := by decide +kernel
theorem dX10_state_70 : decode cX10_state 70 = .ok (.if_icmp .ge 32, 3) := by decide +kernel
theorem dX10_state_73 : decode cX10_state 73 = .ok (.iload_n 3, 1) := by decide +kernel
theorem dX10_state_74 : decode cX10_state 74 = .ok (.bipush 6, 2) := by decide +kernel
theorem dX10_state_76 : decode cX10_state 76 = .ok (.if_icmp .ge 26, 3) := by decide +kernel
theorem dX10_state_79 : decode cX10_state 79 = .ok (.iload_n 2, 1) := by decide +kernel
theorem dX10_state_80 : decode cX10_state 80 = .ok (.aload_n 0, 1) := by decide +kernel
theorem dX10_state_81 : decode cX10_state 81 = .ok (.aload_n 0, 1) := by decide +kernel
theorem dX10_state_82 : decode cX10_state 82 = .ok (.getfield 23, 3) := by decide +kernel
theorem dX10_state_85 : decode cX10_state 85 = .ok (.getfield 93, 3) := by decide +kernel
theorem dX10_state_88 : decode cX10_state 88 = .ok (.iload_n 3, 1) := by decide +kernel
theorem dX10_state_89 : decode cX10_state 89 = .ok (.aaload, 1) := by decide +kernel
theorem dX10_state_90 : decode cX10_state 90 = .ok (.iload_n 1, 1) := by decide +kernel
theorem dX10_state_91 : decode cX10_state 91 = .ok (.invokevirtual 97, 3) := by decide +kernel
theorem dX10_state_94 : decode cX10_state 94 = .ok (.iadd, 1) := by decide +kernel
theorem dX10_state_95 : decode cX10_state 95 = .ok (.istore_n 2, 1) := by decide +kernel
theorem dX10_state_96 : decode cX10_state 96 = .ok (.iinc 3 1, 3) := by decide +kernel
theorem dX10_state_99 : decode cX10_state 99 = .ok (.goto (-37), 3) := by decide +kernel
theorem dX10_state_102 : decode cX10_state 102 = .ok (.iload_n 2, 1) := by decide +kernel
theorem dX10_state_103 : decode cX10_state 103 = .ok (.ireturn, 1) := by decide +kernel
theorem dX10_shareOf_0 : decode cX10_shareOf 0 = .ok (.iload_n 2, 1) := by decide +kernel
theorem dX10_shareOf_1 : decode cX10_shareOf 1 = .ok (.tableswitch 81 1 5 #[35, 40, 54, 68, 76], 35) := by decide +kernel
theorem dX10_shareOf_36 : decode cX10_shareOf 36 = .ok (.aload_n 1, 1) := by decide +kernel
theorem dX10_shareOf_37 : decode cX10_shareOf 37 = .ok (.getfield 101, 3) := by decide +kernel
theorem dX10_shareOf_40 : decode cX10_shareOf 40 = .ok (.ireturn, 1) := by decide +kernel
theorem dX10_shareOf_41 : decode cX10_shareOf 41 = .ok (.aload_n 1, 1) := by decide +kernel
theorem dX10_shareOf_42 : decode cX10_shareOf 42 = .ok (.getfield 106, 3) := by decide +kernel
theorem dX10_shareOf_45 : decode cX10_shareOf 45 = .ok (.iconst 1, 1) := by decide +kernel
theorem dX10_shareOf_46 : decode cX10_shareOf 46 = .ok (.if_icmp .ne 7, 3) := by decide +kernel
theorem dX10_shareOf_49 : decode cX10_shareOf 49 = .ok (.iconst 1, 1) := by decide +kernel
theorem dX10_shareOf_50 : decode cX10_shareOf 50 = .ok (.goto 4, 3) := by decide +kernel
theorem dX10_shareOf_53 : decode cX10_shareOf 53 = .ok (.iconst 0, 1) := by decide +kernel
theorem dX10_shareOf_54 : decode cX10_shareOf 54 = .ok (.ireturn, 1) := by decide +kernel
theorem dX10_shareOf_55 : decode cX10_shareOf 55 = .ok (.aload_n 1, 1) := by decide +kernel
theorem dX10_shareOf_56 : decode cX10_shareOf 56 = .ok (.getfield 106, 3) := by decide +kernel
theorem dX10_shareOf_59 : decode cX10_shareOf 59 = .ok (.iconst 2, 1) := by decide +kernel
theorem dX10_shareOf_60 : decode cX10_shareOf 60 = .ok (.if_icmp .ne 7, 3) := by decide +kernel
theorem dX10_shareOf_63 : decode cX10_shareOf 63 = .ok (.iconst 1, 1) := by decide +kernel
theorem dX10_shareOf_64 : decode cX10_shareOf 64 = .ok (.goto 4, 3) := by decide +kernel
theorem dX10_shareOf_67 : decode cX10_shareOf 67 = .ok (.iconst 0, 1) := by decide +kernel
theorem dX10_shareOf_68 : decode cX10_shareOf 68 = .ok (.ireturn, 1) := by decide +kernel
theorem dX10_shareOf_69 : decode cX10_shareOf 69 = .ok (.aload_n 1, 1) := by decide +kernel
theorem dX10_shareOf_70 : decode cX10_shareOf 70 = .ok (.getfield 109, 3) := by decide +kernel
theorem dX10_shareOf_73 : decode cX10_shareOf 73 = .ok (.invokestatic 112, 3) := by decide +kernel
theorem dX10_shareOf_76 : decode cX10_shareOf 76 = .ok (.ireturn, 1) := by decide +kernel
theorem dX10_shareOf_77 : decode cX10_shareOf 77 = .ok (.aload_n 1, 1) := by decide +kernel
theorem dX10_shareOf_78 : decode cX10_shareOf 78 = .ok (.invokevirtual 118, 3) := by decide +kernel
theorem dX10_shareOf_81 : decode cX10_shareOf 81 = .ok (.ireturn, 1) := by decide +kernel
theorem dX10_shareOf_82 : decode cX10_shareOf 82 = .ok (.aload_n 0, 1) := by decide +kernel
theorem dX10_shareOf_83 : decode cX10_shareOf 83 = .ok (.getfield 47, 3) := by decide +kernel
theorem dX10_shareOf_86 : decode cX10_shareOf 86 = .ok (.aload_n 1, 1) := by decide +kernel
theorem dX10_shareOf_87 : decode cX10_shareOf 87 = .ok (.aload_n 0, 1) := by decide +kernel
theorem dX10_shareOf_88 : decode cX10_shareOf 88 = .ok (.getfield 23, 3) := by decide +kernel
theorem dX10_shareOf_91 : decode cX10_shareOf 91 = .ok (.getfield 121, 3) := by decide +kernel
theorem dX10_shareOf_94 : decode cX10_shareOf 94 = .ok (.invokevirtual 124, 3) := by decide +kernel
theorem dX10_shareOf_97 : decode cX10_shareOf 97 = .ok (.ifCond .eq 7, 3) := by decide +kernel
theorem dX10_shareOf_100 : decode cX10_shareOf 100 = .ok (.iconst 1, 1) := by decide +kernel
theorem dX10_shareOf_101 : decode cX10_shareOf 101 = .ok (.goto 4, 3) := by decide +kernel
theorem dX10_shareOf_104 : decode cX10_shareOf 104 = .ok (.iconst 0, 1) := by decide +kernel
theorem dX10_shareOf_105 : decode cX10_shareOf 105 = .ok (.ireturn, 1) := by decide +kernel
theorem dX10_stock_0 : decode cX10_stock 0 = .ok (.iload_n 1, 1) := by decide +kernel
theorem dX10_stock_1 : decode cX10_stock 1 = .ok (.invokestatic 128, 3) := by decide +kernel
theorem dX10_stock_4 : decode cX10_stock 4 = .ok (.aload_n 0, 1) := by decide +kernel
theorem dX10_stock_5 : decode cX10_stock 5 = .ok (.getfield 23, 3) := by decide +kernel
theorem dX10_stock_8 : decode cX10_stock 8 = .ok (.getfield 121, 3) := by decide +kernel
theorem dX10_stock_11 : decode cX10_stock 11 = .ok (.iload_n 1, 1) := by decide +kernel
theorem dX10_stock_12 : decode cX10_stock 12 = .ok (.invokestatic 131, 3) := by decide +kernel
theorem dX10_stock_15 : decode cX10_stock 15 = .ok (.ireturn, 1) := by decide +kernel
theorem dX10_quest_0 : decode cX10_quest 0 = .ok (.aload_n 0, 1) := by decide +kernel
theorem dX10_quest_1 : decode cX10_quest 1 = .ok (.iload_n 1, 1) := by decide +kernel
theorem dX10_quest_2 : decode cX10_quest 2 = .ok (.invokevirtual 135, 3) := by decide +kernel
theorem dX10_quest_5 : decode cX10_quest 5 = .ok (.astore_n 3, 1) := by decide +kernel
theorem dX10_quest_6 : decode cX10_quest 6 = .ok (.iload_n 2, 1) := by decide +kernel
theorem dX10_quest_7 : decode cX10_quest 7 = .ok (.tableswitch 92 0 7 #[45, 50, 55, 60, 65, 70, 75, 80], 45) := by decide +kernel
theorem dX10_quest_52 : decode cX10_quest 52 = .ok (.aload_n 3, 1) := by decide +kernel
theorem dX10_quest_53 : decode cX10_quest 53 = .ok (.getfield 101, 3) := by decide +kernel
theorem dX10_quest_56 : decode cX10_quest 56 = .ok (.ireturn, 1) := by decide +kernel
theorem dX10_quest_57 : decode cX10_quest 57 = .ok (.aload_n 3, 1) := by decide +kernel
theorem dX10_quest_58 : decode cX10_quest 58 = .ok (.getfield 106, 3) := by decide +kernel
theorem dX10_quest_61 : decode cX10_quest 61 = .ok (.ireturn, 1) := by decide +kernel
theorem dX10_quest_62 : decode cX10_quest 62 = .ok (.aload_n 3, 1) := by decide +kernel
theorem dX10_quest_63 : decode cX10_quest 63 = .ok (.getfield 109, 3) := by decide +kernel
theorem dX10_quest_66 : decode cX10_quest 66 = .ok (.ireturn, 1) := by decide +kernel
theorem dX10_quest_67 : decode cX10_quest 67 = .ok (.aload_n 3, 1) := by decide +kernel
theorem dX10_quest_68 : decode cX10_quest 68 = .ok (.invokevirtual 139, 3) := by decide +kernel
theorem dX10_quest_71 : decode cX10_quest 71 = .ok (.ireturn, 1) := by decide +kernel
theorem dX10_quest_72 : decode cX10_quest 72 = .ok (.aload_n 3, 1) := by decide +kernel
theorem dX10_quest_73 : decode cX10_quest 73 = .ok (.getfield 142, 3) := by decide +kernel
theorem dX10_quest_76 : decode cX10_quest 76 = .ok (.ireturn, 1) := by decide +kernel
theorem dX10_quest_77 : decode cX10_quest 77 = .ok (.aload_n 3, 1) := by decide +kernel
theorem dX10_quest_78 : decode cX10_quest 78 = .ok (.getfield 145, 3) := by decide +kernel
theorem dX10_quest_81 : decode cX10_quest 81 = .ok (.ireturn, 1) := by decide +kernel
theorem dX10_quest_82 : decode cX10_quest 82 = .ok (.aload_n 3, 1) := by decide +kernel
theorem dX10_quest_83 : decode cX10_quest 83 = .ok (.invokevirtual 118, 3) := by decide +kernel
theorem dX10_quest_86 : decode cX10_quest 86 = .ok (.ireturn, 1) := by decide +kernel
theorem dX10_quest_87 : decode cX10_quest 87 = .ok (.aload_n 3, 1) := by decide +kernel
theorem dX10_quest_88 : decode cX10_quest 88 = .ok (.aload_n 0, 1) := by decide +kernel
theorem dX10_quest_89 : decode cX10_quest 89 = .ok (.getfield 23, 3) := by decide +kernel
theorem dX10_quest_92 : decode cX10_quest 92 = .ok (.getfield 121, 3) := by decide +kernel
theorem dX10_quest_95 : decode cX10_quest 95 = .ok (.invokevirtual 148, 3) := by decide +kernel
theorem dX10_quest_98 : decode cX10_quest 98 = .ok (.ireturn, 1) := by decide +kernel
theorem dX10_quest_99 : decode cX10_quest 99 = .ok (.new 66, 3) := by decide +kernel
theorem dX10_quest_102 : decode cX10_quest 102 = .ok (.dup, 1) := by decide +kernel
theorem dX10_quest_103 : decode cX10_quest 103 = .ok (.invokespecial 68, 3) := by decide +kernel
theorem dX10_quest_106 : decode cX10_quest 106 = .ok (.athrow, 1) := by decide +kernel
theorem dX10_step_0 : decode cX10_step 0 = .ok (.aload_n 0, 1) := by decide +kernel
theorem dX10_step_1 : decode cX10_step 1 = .ok (.iload_n 1, 1) := by decide +kernel
theorem dX10_step_2 : decode cX10_step 2 = .ok (.iload_n 2, 1) := by decide +kernel
theorem dX10_step_3 : decode cX10_step 3 = .ok (.invokevirtual 152, 3) := by decide +kernel
theorem dX10_step_6 : decode cX10_step 6 = .ok (.astore 4, 2) := by decide +kernel
theorem dX10_step_8 : decode cX10_step 8 = .ok (.iload_n 3, 1) := by decide +kernel
theorem dX10_step_9 : decode cX10_step 9 = .ok (.tableswitch 104 0 5 #[39, 49, 59, 69, 84, 94], 39) := by decide +kernel
theorem dX10_step_48 : decode cX10_step 48 = .ok (.aload 4, 2) := by decide +kernel
theorem dX10_step_50 : decode cX10_step 50 = .ok (.getfield 156, 3) := by decide +kernel
theorem dX10_step_53 : decode cX10_step 53 = .ok (.iload_n 2, 1) := by decide +kernel
theorem dX10_step_54 : decode cX10_step 54 = .ok (.invokestatic 131, 3) := by decide +kernel
theorem dX10_step_57 : decode cX10_step 57 = .ok (.ireturn, 1) := by decide +kernel
theorem dX10_step_58 : decode cX10_step 58 = .ok (.aload 4, 2) := by decide +kernel
theorem dX10_step_60 : decode cX10_step 60 = .ok (.getfield 159, 3) := by decide +kernel
theorem dX10_step_63 : decode cX10_step 63 = .ok (.iload_n 2, 1) := by decide +kernel
theorem dX10_step_64 : decode cX10_step 64 = .ok (.invokestatic 131, 3) := by decide +kernel
theorem dX10_step_67 : decode cX10_step 67 = .ok (.ireturn, 1) := by decide +kernel
theorem dX10_step_68 : decode cX10_step 68 = .ok (.aload 4, 2) := by decide +kernel
theorem dX10_step_70 : decode cX10_step 70 = .ok (.getfield 162, 3) := by decide +kernel
theorem dX10_step_73 : decode cX10_step 73 = .ok (.iload_n 2, 1) := by decide +kernel
theorem dX10_step_74 : decode cX10_step 74 = .ok (.invokestatic 131, 3) := by decide +kernel
theorem dX10_step_77 : decode cX10_step 77 = .ok (.ireturn, 1) := by decide +kernel
theorem dX10_step_78 : decode cX10_step 78 = .ok (.aload 4, 2) := by decide +kernel
theorem dX10_step_80 : decode cX10_step 80 = .ok (.iload_n 2, 1) := by decide +kernel
theorem dX10_step_81 : decode cX10_step 81 = .ok (.invokevirtual 165, 3) := by decide +kernel
theorem dX10_step_84 : decode cX10_step 84 = .ok (.ifCond .eq 7, 3) := by decide +kernel
theorem dX10_step_87 : decode cX10_step 87 = .ok (.iconst 1, 1) := by decide +kernel
theorem dX10_step_88 : decode cX10_step 88 = .ok (.goto 4, 3) := by decide +kernel
theorem dX10_step_91 : decode cX10_step 91 = .ok (.iconst 0, 1) := by decide +kernel
