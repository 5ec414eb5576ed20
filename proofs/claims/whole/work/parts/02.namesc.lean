theorem dX10_quest_86 : decode cX10_quest 86 = .ok (.ireturn, 1) := by decide +kernel
theorem dX10_quest_87 : decode cX10_quest 87 = .ok (.aload_n 3, 1) := by decide +kernel
theorem dX10_quest_88 : decode cX10_quest 88 = .ok (.aload_n 0, 1) := by decide +kernel
theorem dX10_quest_89 : decode cX10_quest 89 = .ok (.getfield 23, 3) := by decide +kernel
theorem dX10_quest_92 : decode cX10_quest 92 = .ok (.getfield 121, 3) := by decide +kernel
theorem dX10_quest_95 : decode cX10_quest 95 = .ok (.invokevirtual 148, 3) := by decide +kernel
theorem dX10_quest_98 : decode cX10_quest 98 = .ok (.ireturn, 1) := by decide +kernel
theorem dX10_quest_99 : decode cX10_quest 99 = .ok (.new 66, 3) := by decide +kernel
theorem dX10_quest_102 : decode cX10_quest 102 = .ok (.dup, 1) := by decide +kernel
theorem dX10_quest_103 : decode cX10_quest 103 = .ok (.invokespecial 68, 3) := by decide +kernel
theorem dX10_quest_106 : decode cX10_quest 106 = .ok (.athrow, 1) := by decide +kernel
theorem dX10_step_0 : decode cX10_step 0 = .ok (.aload_n 0, 1) := by decide +kernel
theorem dX10_step_1 : decode cX10_step 1 = .ok (.iload_n 1, 1) := by decide +kernel
theorem dX10_step_2 : decode cX10_step 2 = .ok (.iload_n 2, 1) := by decide +kernel
theorem dX10_step_3 : decode cX10_step 3 = .ok (.invokevirtual 152, 3) := by decide +kernel
theorem dX10_step_6 : decode cX10_step 6 = .ok (.astore 4, 2) := by decide +kernel
theorem dX10_step_8 : decode cX10_step 8 = .ok (.iload_n 3, 1) := by decide +kernel
theorem dX10_step_9 : decode cX10_step 9 = .ok (.tableswitch 104 0 5 #[39, 49, 59, 69, 84, 94], 39) := by decide +kernel
theorem dX10_step_48 : decode cX10_step 48 = .ok (.aload 4, 2) := by decide +kernel
theorem dX10_step_50 : decode cX10_step 50 = .ok (.getfield 156, 3) := by decide +kernel
theorem dX10_step_53 : decode cX10_step 53 = .ok (.iload_n 2, 1) := by decide +kernel
theorem dX10_step_54 : decode cX10_step 54 = .ok (.invokestatic 131, 3) := by decide +kernel
theorem dX10_step_57 : decode cX10_step 57 = .ok (.ireturn, 1) := by decide +kernel
theorem dX10_step_58 : decode cX10_step 58 = .ok (.aload 4, 2) := by decide +kernel
theorem dX10_step_60 : decode cX10_step 60 = .ok (.getfield 159, 3) := by decide +kernel
theorem dX10_step_63 : decode cX10_step 63 = .ok (.iload_n 2, 1) := by decide +kernel
theorem dX10_step_64 : decode cX10_step 64 = .ok (.invokestatic 131, 3) := by decide +kernel
theorem dX10_step_67 : decode cX10_step 67 = .ok (.ireturn, 1) := by decide +kernel
theorem dX10_step_68 : decode cX10_step 68 = .ok (.aload 4, 2) := by decide +kernel
theorem dX10_step_70 : decode cX10_step 70 = .ok (.getfield 162, 3) := by decide +kernel
theorem dX10_step_73 : decode cX10_step 73 = .ok (.iload_n 2, 1) := by decide +kernel
theorem dX10_step_74 : decode cX10_step 74 = .ok (.invokestatic 131, 3) := by decide +kernel
theorem dX10_step_77 : decode cX10_step 77 = .ok (.ireturn, 1) := by decide +kernel
theorem dX10_step_78 : decode cX10_step 78 = .ok (.aload 4, 2) := by decide +kernel
theorem dX10_step_80 : decode cX10_step 80 = .ok (.iload_n 2, 1) := by decide +kernel
theorem dX10_step_81 : decode cX10_step 81 = .ok (.invokevirtual 165, 3) := by decide +kernel
theorem dX10_step_84 : decode cX10_step 84 = .ok (.ifCond .eq 7, 3) := by decide +kernel
theorem dX10_step_87 : decode cX10_step 87 = .ok (.iconst 1, 1) := by decide +kernel
theorem dX10_step_88 : decode cX10_step 88 = .ok (.goto 4, 3) := by decide +kernel
theorem dX10_step_91 : decode cX10_step 91 = .ok (.iconst 0, 1) := by decide +kernel
theorem dX10_step_92 : decode cX10_step 92 = .ok (.ireturn, 1) := by decide +kernel
theorem dX10_step_93 : decode cX10_step 93 = .ok (.aload 4, 2) := by decide +kernel
theorem dX10_step_95 : decode cX10_step 95 = .ok (.getfield 169, 3) := by decide +kernel
theorem dX10_step_98 : decode cX10_step 98 = .ok (.iload_n 2, 1) := by decide +kernel
theorem dX10_step_99 : decode cX10_step 99 = .ok (.invokestatic 131, 3) := by decide +kernel
theorem dX10_step_102 : decode cX10_step 102 = .ok (.ireturn, 1) := by decide +kernel
theorem dX10_step_103 : decode cX10_step 103 = .ok (.aload 4, 2) := by decide +kernel
theorem dX10_step_105 : decode cX10_step 105 = .ok (.getfield 172, 3) := by decide +kernel
theorem dX10_step_108 : decode cX10_step 108 = .ok (.iload_n 2, 1) := by decide +kernel
theorem dX10_step_109 : decode cX10_step 109 = .ok (.invokestatic 131, 3) := by decide +kernel
theorem dX10_step_112 : decode cX10_step 112 = .ok (.ireturn, 1) := by decide +kernel
theorem dX10_step_113 : decode cX10_step 113 = .ok (.new 66, 3) := by decide +kernel
theorem dX10_step_116 : decode cX10_step 116 = .ok (.dup, 1) := by decide +kernel
theorem dX10_step_117 : decode cX10_step 117 = .ok (.invokespecial 68, 3) := by decide +kernel
theorem dX10_step_120 : decode cX10_step 120 = .ok (.athrow, 1) := by decide +kernel
theorem dX10_amount_0 : decode cX10_amount 0 = .ok (.aload_n 0, 1) := by decide +kernel
theorem dX10_amount_1 : decode cX10_amount 1 = .ok (.iload_n 1, 1) := by decide +kernel
theorem dX10_amount_2 : decode cX10_amount 2 = .ok (.iload_n 2, 1) := by decide +kernel
theorem dX10_amount_3 : decode cX10_amount 3 = .ok (.invokevirtual 152, 3) := by decide +kernel
theorem dX10_amount_6 : decode cX10_amount 6 = .ok (.astore 5, 2) := by decide +kernel
theorem dX10_amount_8 : decode cX10_amount 8 = .ok (.iload_n 3, 1) := by decide +kernel
theorem dX10_amount_9 : decode cX10_amount 9 = .ok (.invokestatic 128, 3) := by decide +kernel
theorem dX10_amount_12 : decode cX10_amount 12 = .ok (.iload_n 2, 1) := by decide +kernel
theorem dX10_amount_13 : decode cX10_amount 13 = .ok (.bipush 8, 2) := by decide +kernel
theorem dX10_amount_15 : decode cX10_amount 15 = .ok (.imul, 1) := by decide +kernel
theorem dX10_amount_16 : decode cX10_amount 16 = .ok (.iload_n 3, 1) := by decide +kernel
theorem dX10_amount_17 : decode cX10_amount 17 = .ok (.iadd, 1) := by decide +kernel
theorem dX10_amount_18 : decode cX10_amount 18 = .ok (.istore 6, 2) := by decide +kernel
theorem dX10_amount_20 : decode cX10_amount 20 = .ok (.iload 4, 2) := by decide +kernel
theorem dX10_amount_22 : decode cX10_amount 22 = .ok (.tableswitch 59 0 2 #[26, 37, 48], 26) := by decide +kernel
theorem dX10_amount_48 : decode cX10_amount 48 = .ok (.aload 5, 2) := by decide +kernel
theorem dX10_amount_50 : decode cX10_amount 50 = .ok (.getfield 175, 3) := by decide +kernel
theorem dX10_amount_53 : decode cX10_amount 53 = .ok (.iload 6, 2) := by decide +kernel
theorem dX10_amount_55 : decode cX10_amount 55 = .ok (.invokestatic 131, 3) := by decide +kernel
theorem dX10_amount_58 : decode cX10_amount 58 = .ok (.ireturn, 1) := by decide +kernel
theorem dX10_amount_59 : decode cX10_amount 59 = .ok (.aload 5, 2) := by decide +kernel
theorem dX10_amount_61 : decode cX10_amount 61 = .ok (.getfield 178, 3) := by decide +kernel
theorem dX10_amount_64 : decode cX10_amount 64 = .ok (.iload 6, 2) := by decide +kernel
theorem dX10_amount_66 : decode cX10_amount 66 = .ok (.invokestatic 131, 3) := by decide +kernel
theorem dX10_amount_69 : decode cX10_amount 69 = .ok (.ireturn, 1) := by decide +kernel
theorem dX10_amount_70 : decode cX10_amount 70 = .ok (.aload 5, 2) := by decide +kernel
theorem dX10_amount_72 : decode cX10_amount 72 = .ok (.getfield 181, 3) := by decide +kernel
theorem dX10_amount_75 : decode cX10_amount 75 = .ok (.iload 6, 2) := by decide +kernel
theorem dX10_amount_77 : decode cX10_amount 77 = .ok (.invokestatic 131, 3) := by decide +kernel
theorem dX10_amount_80 : decode cX10_amount 80 = .ok (.ireturn, 1) := by decide +kernel
theorem dX10_amount_81 : decode cX10_amount 81 = .ok (.new 66, 3) := by decide +kernel
theorem dX10_amount_84 : decode cX10_amount 84 = .ok (.dup, 1) := by decide +kernel
theorem dX10_amount_85 : decode cX10_amount 85 = .ok (.invokespecial 68, 3) := by decide +kernel
theorem dX10_amount_88 : decode cX10_amount 88 = .ok (.athrow, 1) := by decide +kernel
theorem dX10_why_0 : decode cX10_why 0 = .ok (.aload_n 0, 1) := by decide +kernel
theorem dX10_why_1 : decode cX10_why 1 = .ok (.iload_n 1, 1) := by decide +kernel
theorem dX10_why_2 : decode cX10_why 2 = .ok (.iload_n 2, 1) := by decide +kernel
theorem dX10_why_3 : decode cX10_why 3 = .ok (.invokevirtual 152, 3) := by decide +kernel
theorem dX10_why_6 : decode cX10_why 6 = .ok (.iload_n 2, 1) := by decide +kernel
theorem dX10_why_7 : decode cX10_why 7 = .ok (.aload_n 0, 1) := by decide +kernel
theorem dX10_why_8 : decode cX10_why 8 = .ok (.getfield 23, 3) := by decide +kernel
theorem dX10_why_11 : decode cX10_why 11 = .ok (.getfield 121, 3) := by decide +kernel
theorem dX10_why_14 : decode cX10_why 14 = .ok (.invokevirtual 184, 3) := by decide +kernel
theorem dX10_why_17 : decode cX10_why 17 = .ok (.ireturn, 1) := by decide +kernel
theorem dX10_holds_0 : decode cX10_holds 0 = .ok (.aload_n 0, 1) := by decide +kernel
theorem dX10_holds_1 : decode cX10_holds 1 = .ok (.iload_n 1, 1) := by decide +kernel
theorem dX10_holds_2 : decode cX10_holds 2 = .ok (.invokevirtual 135, 3) := by decide +kernel
theorem dX10_holds_5 : decode cX10_holds 5 = .ok (.astore_n 3, 1) := by decide +kernel
theorem dX10_holds_6 : decode cX10_holds 6 = .ok (.iload_n 2, 1) := by decide +kernel
theorem dX10_holds_7 : decode cX10_holds 7 = .ok (.ifCond .lt 9, 3) := by decide +kernel
theorem dX10_holds_10 : decode cX10_holds 10 = .ok (.iload_n 2, 1) := by decide +kernel
theorem dX10_holds_11 : decode cX10_holds 11 = .ok (.bipush 64, 2) := by decide +kernel
theorem dX10_holds_13 : decode cX10_holds 13 = .ok (.if_icmp .lt 11, 3) := by decide +kernel
theorem dX10_holds_16 : decode cX10_holds 16 = .ok (.new 66, 3) := by decide +kernel
theorem dX10_holds_19 : decode cX10_holds 19 = .ok (.dup, 1) := by decide +kernel
theorem dX10_holds_20 : decode cX10_holds 20 = .ok (.invokespecial 68, 3) := by decide +kernel
theorem dX10_holds_23 : decode cX10_holds 23 = .ok (.athrow, 1) := by decide +kernel
theorem dX10_holds_24 : decode cX10_holds 24 = .ok (.aload_n 3, 1) := by decide +kernel
theorem dX10_holds_25 : decode cX10_holds 25 = .ok (.iload_n 2, 1) := by decide +kernel
theorem dX10_holds_26 : decode cX10_holds 26 = .ok (.invokevirtual 188, 3) := by decide +kernel
theorem dX10_holds_29 : decode cX10_holds 29 = .ok (.ireturn, 1) := by decide +kernel
theorem dX10_possible_0 : decode cX10_possible 0 = .ok (.aload_n 0, 1) := by decide +kernel
theorem dX10_possible_1 : decode cX10_possible 1 = .ok (.getfield 47, 3) := by decide +kernel
theorem dX10_possible_4 : decode cX10_possible 4 = .ok (.aload_n 0, 1) := by decide +kernel
theorem dX10_possible_5 : decode cX10_possible 5 = .ok (.iload_n 1, 1) := by decide +kernel
theorem dX10_possible_6 : decode cX10_possible 6 = .ok (.invokevirtual 135, 3) := by decide +kernel
theorem dX10_possible_9 : decode cX10_possible 9 = .ok (.aload_n 0, 1) := by decide +kernel
theorem dX10_possible_10 : decode cX10_possible 10 = .ok (.getfield 23, 3) := by decide +kernel
theorem dX10_possible_13 : decode cX10_possible 13 = .ok (.getfield 121, 3) := by decide +kernel
theorem dX10_possible_16 : decode cX10_possible 16 = .ok (.invokevirtual 124, 3) := by decide +kernel
theorem dX10_possible_19 : decode cX10_possible 19 = .ok (.ireturn, 1) := by decide +kernel
theorem dX10_planLength_0 : decode cX10_planLength 0 = .ok (.aload_n 0, 1) := by decide +kernel
theorem dX10_planLength_1 : decode cX10_planLength 1 = .ok (.iload_n 1, 1) := by decide +kernel
theorem dX10_planLength_2 : decode cX10_planLength 2 = .ok (.invokevirtual 135, 3) := by decide +kernel
theorem dX10_planLength_5 : decode cX10_planLength 5 = .ok (.astore_n 2, 1) := by decide +kernel
theorem dX10_planLength_6 : decode cX10_planLength 6 = .ok (.aload_n 0, 1) := by decide +kernel
theorem dX10_planLength_7 : decode cX10_planLength 7 = .ok (.getfield 47, 3) := by decide +kernel
theorem dX10_planLength_10 : decode cX10_planLength 10 = .ok (.aload_n 2, 1) := by decide +kernel
theorem dX10_planLength_11 : decode cX10_planLength 11 = .ok (.aload_n 0, 1) := by decide +kernel
theorem dX10_planLength_12 : decode cX10_planLength 12 = .ok (.getfield 23, 3) := by decide +kernel
theorem dX10_planLength_15 : decode cX10_planLength 15 = .ok (.getfield 121, 3) := by decide +kernel
theorem dX10_planLength_18 : decode cX10_planLength 18 = .ok (.invokevirtual 124, 3) := by decide +kernel
theorem dX10_planLength_21 : decode cX10_planLength 21 = .ok (.pop, 1) := by decide +kernel
theorem dX10_planLength_22 : decode cX10_planLength 22 = .ok (.aload_n 0, 1) := by decide +kernel
theorem dX10_planLength_23 : decode cX10_planLength 23 = .ok (.getfield 47, 3) := by decide +kernel
theorem dX10_planLength_26 : decode cX10_planLength 26 = .ok (.aload_n 2, 1) := by decide +kernel
theorem dX10_planLength_27 : decode cX10_planLength 27 = .ok (.invokevirtual 191, 3) := by decide +kernel
theorem dX10_planLength_30 : decode cX10_planLength 30 = .ok (.ireturn, 1) := by decide +kernel
theorem dX10_planStep_0 : decode cX10_planStep 0 = .ok (.aload_n 0, 1) := by decide +kernel
theorem dX10_planStep_1 : decode cX10_planStep 1 = .ok (.iload_n 1, 1) := by decide +kernel
theorem dX10_planStep_2 : decode cX10_planStep 2 = .ok (.invokevirtual 135, 3) := by decide +kernel
theorem dX10_planStep_5 : decode cX10_planStep 5 = .ok (.astore_n 3, 1) := by decide +kernel
theorem dX10_planStep_6 : decode cX10_planStep 6 = .ok (.aload_n 0, 1) := by decide +kernel
theorem dX10_planStep_7 : decode cX10_planStep 7 = .ok (.getfield 47, 3) := by decide +kernel
theorem dX10_planStep_10 : decode cX10_planStep 10 = .ok (.aload_n 3, 1) := by decide +kernel
theorem dX10_planStep_11 : decode cX10_planStep 11 = .ok (.aload_n 0, 1) := by decide +kernel
theorem dX10_planStep_12 : decode cX10_planStep 12 = .ok (.getfield 23, 3) := by decide +kernel
theorem dX10_planStep_15 : decode cX10_planStep 15 = .ok (.getfield 121, 3) := by decide +kernel
theorem dX10_planStep_18 : decode cX10_planStep 18 = .ok (.invokevirtual 124, 3) := by decide +kernel
theorem dX10_planStep_21 : decode cX10_planStep 21 = .ok (.pop, 1) := by decide +kernel
theorem dX10_planStep_22 : decode cX10_planStep 22 = .ok (.iload_n 2, 1) := by decide +kernel
theorem dX10_planStep_23 : decode cX10_planStep 23 = .ok (.ifCond .lt 15, 3) := by decide +kernel
theorem dX10_planStep_26 : decode cX10_planStep 26 = .ok (.iload_n 2, 1) := by decide +kernel
theorem dX10_planStep_27 : decode cX10_planStep 27 = .ok (.aload_n 0, 1) := by decide +kernel
theorem dX10_planStep_28 : decode cX10_planStep 28 = .ok (.getfield 47, 3) := by decide +kernel
theorem dX10_planStep_31 : decode cX10_planStep 31 = .ok (.aload_n 3, 1) := by decide +kernel
theorem dX10_planStep_32 : decode cX10_planStep 32 = .ok (.invokevirtual 191, 3) := by decide +kernel
theorem dX10_planStep_35 : decode cX10_planStep 35 = .ok (.if_icmp .lt 11, 3) := by decide +kernel
theorem dX10_planStep_38 : decode cX10_planStep 38 = .ok (.new 195, 3) := by decide +kernel
theorem dX10_planStep_41 : decode cX10_planStep 41 = .ok (.dup, 1) := by decide +kernel
theorem dX10_planStep_42 : decode cX10_planStep 42 = .ok (.invokespecial 197, 3) := by decide +kernel
theorem dX10_planStep_45 : decode cX10_planStep 45 = .ok (.athrow, 1) := by decide +kernel
theorem dX10_planStep_46 : decode cX10_planStep 46 = .ok (.aload_n 0, 1) := by decide +kernel
theorem dX10_planStep_47 : decode cX10_planStep 47 = .ok (.getfield 47, 3) := by decide +kernel
theorem dX10_planStep_50 : decode cX10_planStep 50 = .ok (.aload_n 0, 1) := by decide +kernel
theorem dX10_planStep_51 : decode cX10_planStep 51 = .ok (.getfield 47, 3) := by decide +kernel
theorem dX10_planStep_54 : decode cX10_planStep 54 = .ok (.aload_n 3, 1) := by decide +kernel
theorem dX10_planStep_55 : decode cX10_planStep 55 = .ok (.iload_n 2, 1) := by decide +kernel
theorem dX10_planStep_56 : decode cX10_planStep 56 = .ok (.invokevirtual 198, 3) := by decide +kernel
theorem dX10_planStep_59 : decode cX10_planStep 59 = .ok (.invokevirtual 201, 3) := by decide +kernel
theorem dX10_planStep_62 : decode cX10_planStep 62 = .ok (.ireturn, 1) := by decide +kernel
theorem dX10_safest_0 : decode cX10_safest 0 = .ok (.aload_n 0, 1) := by decide +kernel
theorem dX10_safest_1 : decode cX10_safest 1 = .ok (.iload_n 1, 1) := by decide +kernel
theorem dX10_safest_2 : decode cX10_safest 2 = .ok (.invokevirtual 135, 3) := by decide +kernel
theorem dX10_safest_5 : decode cX10_safest 5 = .ok (.astore_n 2, 1) := by decide +kernel
theorem dX10_safest_6 : decode cX10_safest 6 = .ok (.aload_n 0, 1) := by decide +kernel
theorem dX10_safest_7 : decode cX10_safest 7 = .ok (.getfield 47, 3) := by decide +kernel
theorem dX10_safest_10 : decode cX10_safest 10 = .ok (.aload_n 2, 1) := by decide +kernel
theorem dX10_safest_11 : decode cX10_safest 11 = .ok (.aload_n 0, 1) := by decide +kernel
theorem dX10_safest_12 : decode cX10_safest 12 = .ok (.getfield 23, 3) := by decide +kernel
theorem dX10_safest_15 : decode cX10_safest 15 = .ok (.getfield 121, 3) := by decide +kernel
theorem dX10_safest_18 : decode cX10_safest 18 = .ok (.invokevirtual 124, 3) := by decide +kernel
theorem dX10_safest_21 : decode cX10_safest 21 = .ok (.pop, 1) := by decide +kernel
theorem dX10_safest_22 : decode cX10_safest 22 = .ok (.aload_n 0, 1) := by decide +kernel
theorem dX10_safest_23 : decode cX10_safest 23 = .ok (.getfield 47, 3) := by decide +kernel
theorem dX10_safest_26 : decode cX10_safest 26 = .ok (.aload_n 2, 1) := by decide +kernel
theorem dX10_safest_27 : decode cX10_safest 27 = .ok (.invokevirtual 204, 3) := by decide +kernel
theorem dX10_safest_30 : decode cX10_safest 30 = .ok (.ireturn, 1) := by decide +kernel
theorem dX10_endings_0 : decode cX10_endings 0 = .ok (.aload_n 0, 1) := by decide +kernel
theorem dX10_endings_1 : decode cX10_endings 1 = .ok (.iload_n 1, 1) := by decide +kernel
theorem dX10_endings_2 : decode cX10_endings 2 = .ok (.invokevirtual 135, 3) := by decide +kernel
theorem dX10_endings_5 : decode cX10_endings 5 = .ok (.astore_n 2, 1) := by decide +kernel
theorem dX10_endings_6 : decode cX10_endings 6 = .ok (.aload_n 0, 1) := by decide +kernel
theorem dX10_endings_7 : decode cX10_endings 7 = .ok (.getfield 47, 3) := by decide +kernel
theorem dX10_endings_10 : decode cX10_endings 10 = .ok (.aload_n 2, 1) := by decide +kernel
theorem dX10_endings_11 : decode cX10_endings 11 = .ok (.aload_n 0, 1) := by decide +kernel
theorem dX10_endings_12 : decode cX10_endings 12 = .ok (.getfield 23, 3) := by decide +kernel
theorem dX10_endings_15 : decode cX10_endings 15 = .ok (.getfield 121, 3) := by decide +kernel
theorem dX10_endings_18 : decode cX10_endings 18 = .ok (.invokevirtual 124, 3) := by decide +kernel
theorem dX10_endings_21 : decode cX10_endings 21 = .ok (.pop, 1) := by decide +kernel
theorem dX10_endings_22 : decode cX10_endings 22 = .ok (.aload_n 0, 1) := by decide +kernel
theorem dX10_endings_23 : decode cX10_endings 23 = .ok (.getfield 47, 3) := by decide +kernel
theorem dX10_endings_26 : decode cX10_endings 26 = .ok (.aload_n 2, 1) := by decide +kernel
theorem dX10_endings_27 : decode cX10_endings 27 = .ok (.invokevirtual 207, 3) := by decide +kernel
theorem dX10_endings_30 : decode cX10_endings 30 = .ok (.ireturn, 1) := by decide +kernel
theorem dX10_lacking_0 : decode cX10_lacking 0 = .ok (.aload_n 0, 1) := by decide +kernel
theorem dX10_lacking_1 : decode cX10_lacking 1 = .ok (.iload_n 1, 1) := by decide +kernel
theorem dX10_lacking_2 : decode cX10_lacking 2 = .ok (.invokevirtual 135, 3) := by decide +kernel
theorem dX10_lacking_5 : decode cX10_lacking 5 = .ok (.astore_n 3, 1) := by decide +kernel
theorem dX10_lacking_6 : decode cX10_lacking 6 = .ok (.iload_n 2, 1) := by decide +kernel
theorem dX10_lacking_7 : decode cX10_lacking 7 = .ok (.invokestatic 128, 3) := by decide +kernel
theorem dX10_lacking_10 : decode cX10_lacking 10 = .ok (.aload_n 0, 1) := by decide +kernel
theorem dX10_lacking_11 : decode cX10_lacking 11 = .ok (.aload_n 3, 1) := by decide +kernel
theorem dX10_lacking_12 : decode cX10_lacking 12 = .ok (.iload_n 2, 1) := by decide +kernel
theorem dX10_lacking_13 : decode cX10_lacking 13 = .ok (.bipush 99, 2) := by decide +kernel
theorem dX10_lacking_15 : decode cX10_lacking 15 = .ok (.invokevirtual 210, 3) := by decide +kernel
theorem dX10_lacking_18 : decode cX10_lacking 18 = .ok (.ifCond .ne 5, 3) := by decide +kernel
theorem dX10_lacking_21 : decode cX10_lacking 21 = .ok (.iconst (-1), 1) := by decide +kernel
theorem dX10_lacking_22 : decode cX10_lacking 22 = .ok (.ireturn, 1) := by decide +kernel
theorem dX10_lacking_23 : decode cX10_lacking 23 = .ok (.iconst 0, 1) := by decide +kernel
theorem dX10_lacking_24 : decode cX10_lacking 24 = .ok (.istore 4, 2) := by decide +kernel
theorem dX10_lacking_26 : decode cX10_lacking 26 = .ok (.bipush 99, 2) := by decide +kernel
theorem dX10_lacking_28 : decode cX10_lacking 28 = .ok (.istore 5, 2) := by decide +kernel
theorem dX10_lacking_30 : decode cX10_lacking 30 = .ok (.iconst 0, 1) := by decide +kernel
theorem dX10_lacking_31 : decode cX10_lacking 31 = .ok (.istore 6, 2) := by decide +kernel
theorem dX10_lacking_33 : decode cX10_lacking 33 = .ok (.iload 6, 2) := by decide +kernel
theorem dX10_lacking_35 : decode cX10_lacking 35 = .ok (.bipush 99, 2) := by decide +kernel
theorem dX10_lacking_37 : decode cX10_lacking 37 = .ok (.if_icmp .ge 49, 3) := by decide +kernel
theorem dX10_lacking_40 : decode cX10_lacking 40 = .ok (.iload 4, 2) := by decide +kernel
theorem dX10_lacking_42 : decode cX10_lacking 42 = .ok (.iload 5, 2) := by decide +kernel
theorem dX10_lacking_44 : decode cX10_lacking 44 = .ok (.if_icmp .ge 42, 3) := by decide +kernel
theorem dX10_lacking_47 : decode cX10_lacking 47 = .ok (.iload 4, 2) := by decide +kernel
theorem dX10_lacking_49 : decode cX10_lacking 49 = .ok (.iload 5, 2) := by decide +kernel
theorem dX10_lacking_51 : decode cX10_lacking 51 = .ok (.iadd, 1) := by decide +kernel
theorem dX10_lacking_52 : decode cX10_lacking 52 = .ok (.iconst 2, 1) := by decide +kernel
theorem dX10_lacking_53 : decode cX10_lacking 53 = .ok (.idiv, 1) := by decide +kernel
theorem dX10_lacking_54 : decode cX10_lacking 54 = .ok (.istore 7, 2) := by decide +kernel
theorem dX10_lacking_56 : decode cX10_lacking 56 = .ok (.aload_n 0, 1) := by decide +kernel
theorem dX10_lacking_57 : decode cX10_lacking 57 = .ok (.aload_n 3, 1) := by decide +kernel
theorem dX10_lacking_58 : decode cX10_lacking 58 = .ok (.iload_n 2, 1) := by decide +kernel
theorem dX10_lacking_59 : decode cX10_lacking 59 = .ok (.iload 7, 2) := by decide +kernel
theorem dX10_lacking_61 : decode cX10_lacking 61 = .ok (.invokevirtual 210, 3) := by decide +kernel
theorem dX10_lacking_64 : decode cX10_lacking 64 = .ok (.ifCond .eq 10, 3) := by decide +kernel
theorem dX10_lacking_67 : decode cX10_lacking 67 = .ok (.iload 7, 2) := by decide +kernel
theorem dX10_lacking_69 : decode cX10_lacking 69 = .ok (.istore 5, 2) := by decide +kernel
theorem dX10_lacking_71 : decode cX10_lacking 71 = .ok (.goto 9, 3) := by decide +kernel
theorem dX10_lacking_74 : decode cX10_lacking 74 = .ok (.iload 7, 2) := by decide +kernel
theorem dX10_lacking_76 : decode cX10_lacking 76 = .ok (.iconst 1, 1) := by decide +kernel
theorem dX10_lacking_77 : decode cX10_lacking 77 = .ok (.iadd, 1) := by decide +kernel
theorem dX10_lacking_78 : decode cX10_lacking 78 = .ok (.istore 4, 2) := by decide +kernel
theorem dX10_lacking_80 : decode cX10_lacking 80 = .ok (.iinc 6 1, 3) := by decide +kernel
theorem dX10_lacking_83 : decode cX10_lacking 83 = .ok (.goto (-50), 3) := by decide +kernel
theorem dX10_lacking_86 : decode cX10_lacking 86 = .ok (.iload 5, 2) := by decide +kernel
theorem dX10_lacking_88 : decode cX10_lacking 88 = .ok (.ireturn, 1) := by decide +kernel
theorem dX10_hasWayWithMore_0 : decode cX10_hasWayWithMore 0 = .ok (.iconst 0, 1) := by decide +kernel
theorem dX10_hasWayWithMore_1 : decode cX10_hasWayWithMore 1 = .ok (.istore 4, 2) := by decide +kernel
theorem dX10_hasWayWithMore_3 : decode cX10_hasWayWithMore 3 = .ok (.iload 4, 2) := by decide +kernel
theorem dX10_hasWayWithMore_5 : decode cX10_hasWayWithMore 5 = .ok (.bipush 8, 2) := by decide +kernel
theorem dX10_hasWayWithMore_7 : decode cX10_hasWayWithMore 7 = .ok (.if_icmp .ge 45, 3) := by decide +kernel
theorem dX10_hasWayWithMore_10 : decode cX10_hasWayWithMore 10 = .ok (.aload_n 0, 1) := by decide +kernel
theorem dX10_hasWayWithMore_11 : decode cX10_hasWayWithMore 11 = .ok (.getfield 27, 3) := by decide +kernel
theorem dX10_hasWayWithMore_14 : decode cX10_hasWayWithMore 14 = .ok (.getfield 121, 3) := by decide +kernel
theorem dX10_hasWayWithMore_17 : decode cX10_hasWayWithMore 17 = .ok (.iload 4, 2) := by decide +kernel
theorem dX10_hasWayWithMore_19 : decode cX10_hasWayWithMore 19 = .ok (.aload_n 0, 1) := by decide +kernel
theorem dX10_hasWayWithMore_20 : decode cX10_hasWayWithMore 20 = .ok (.getfield 23, 3) := by decide +kernel
theorem dX10_hasWayWithMore_23 : decode cX10_hasWayWithMore 23 = .ok (.getfield 121, 3) := by decide +kernel
theorem dX10_hasWayWithMore_26 : decode cX10_hasWayWithMore 26 = .ok (.iload 4, 2) := by decide +kernel
theorem dX10_hasWayWithMore_28 : decode cX10_hasWayWithMore 28 = .ok (.invokestatic 131, 3) := by decide +kernel
theorem dX10_hasWayWithMore_31 : decode cX10_hasWayWithMore 31 = .ok (.iload 4, 2) := by decide +kernel
theorem dX10_hasWayWithMore_33 : decode cX10_hasWayWithMore 33 = .ok (.iload_n 2, 1) := by decide +kernel
theorem dX10_hasWayWithMore_34 : decode cX10_hasWayWithMore 34 = .ok (.if_icmp .ne 7, 3) := by decide +kernel
theorem dX10_hasWayWithMore_37 : decode cX10_hasWayWithMore 37 = .ok (.iload_n 3, 1) := by decide +kernel
theorem dX10_hasWayWithMore_38 : decode cX10_hasWayWithMore 38 = .ok (.goto 4, 3) := by decide +kernel
theorem dX10_hasWayWithMore_41 : decode cX10_hasWayWithMore 41 = .ok (.iconst 0, 1) := by decide +kernel
theorem dX10_hasWayWithMore_42 : decode cX10_hasWayWithMore 42 = .ok (.iadd, 1) := by decide +kernel
theorem dX10_hasWayWithMore_43 : decode cX10_hasWayWithMore 43 = .ok (.invokestatic 62, 3) := by decide +kernel
theorem dX10_hasWayWithMore_46 : decode cX10_hasWayWithMore 46 = .ok (.iinc 4 1, 3) := by decide +kernel
theorem dX10_hasWayWithMore_49 : decode cX10_hasWayWithMore 49 = .ok (.goto (-46), 3) := by decide +kernel
theorem dX10_hasWayWithMore_52 : decode cX10_hasWayWithMore 52 = .ok (.aload_n 0, 1) := by decide +kernel
theorem dX10_hasWayWithMore_53 : decode cX10_hasWayWithMore 53 = .ok (.getfield 47, 3) := by decide +kernel
theorem dX10_hasWayWithMore_56 : decode cX10_hasWayWithMore 56 = .ok (.aload_n 1, 1) := by decide +kernel
theorem dX10_hasWayWithMore_57 : decode cX10_hasWayWithMore 57 = .ok (.aload_n 0, 1) := by decide +kernel
theorem dX10_hasWayWithMore_58 : decode cX10_hasWayWithMore 58 = .ok (.getfield 27, 3) := by decide +kernel
theorem dX10_hasWayWithMore_61 : decode cX10_hasWayWithMore 61 = .ok (.getfield 121, 3) := by decide +kernel
theorem dX10_hasWayWithMore_64 : decode cX10_hasWayWithMore 64 = .ok (.invokevirtual 124, 3) := by decide +kernel
theorem dX10_hasWayWithMore_67 : decode cX10_hasWayWithMore 67 = .ok (.ireturn, 1) := by decide +kernel
theorem dX10_campaign_0 : decode cX10_campaign 0 = .ok (.aload_n 0, 1) := by decide +kernel
theorem dX10_campaign_1 : decode cX10_campaign 1 = .ok (.getfield 27, 3) := by decide +kernel
theorem dX10_campaign_4 : decode cX10_campaign 4 = .ok (.aload_n 0, 1) := by decide +kernel
theorem dX10_campaign_5 : decode cX10_campaign 5 = .ok (.getfield 23, 3) := by decide +kernel
theorem dX10_campaign_8 : decode cX10_campaign 8 = .ok (.invokevirtual 81, 3) := by decide +kernel
theorem dX10_campaign_11 : decode cX10_campaign 11 = .ok (.iconst 0, 1) := by decide +kernel
theorem dX10_campaign_12 : decode cX10_campaign 12 = .ok (.istore_n 1, 1) := by decide +kernel
theorem dX10_campaign_13 : decode cX10_campaign 13 = .ok (.iconst 0, 1) := by decide +kernel
theorem dX10_campaign_14 : decode cX10_campaign 14 = .ok (.istore_n 2, 1) := by decide +kernel
theorem dX10_campaign_15 : decode cX10_campaign 15 = .ok (.iload_n 2, 1) := by decide +kernel
theorem dX10_campaign_16 : decode cX10_campaign 16 = .ok (.bipush 6, 2) := by decide +kernel
theorem dX10_campaign_18 : decode cX10_campaign 18 = .ok (.if_icmp .ge 25, 3) := by decide +kernel
theorem dX10_campaign_21 : decode cX10_campaign 21 = .ok (.aload_n 0, 1) := by decide +kernel
theorem dX10_campaign_22 : decode cX10_campaign 22 = .ok (.aload_n 0, 1) := by decide +kernel
theorem dX10_campaign_23 : decode cX10_campaign 23 = .ok (.getfield 27, 3) := by decide +kernel
theorem dX10_campaign_26 : decode cX10_campaign 26 = .ok (.invokevirtual 214, 3) := by decide +kernel
theorem dX10_campaign_29 : decode cX10_campaign 29 = .ok (.ifCond .ne 5, 3) := by decide +kernel
theorem dX10_campaign_32 : decode cX10_campaign 32 = .ok (.iload_n 1, 1) := by decide +kernel
theorem dX10_campaign_33 : decode cX10_campaign 33 = .ok (.ireturn, 1) := by decide +kernel
theorem dX10_campaign_34 : decode cX10_campaign 34 = .ok (.iinc 1 1, 3) := by decide +kernel
theorem dX10_campaign_37 : decode cX10_campaign 37 = .ok (.iinc 2 1, 3) := by decide +kernel
theorem dX10_campaign_40 : decode cX10_campaign 40 = .ok (.goto (-25), 3) := by decide +kernel
theorem dX10_campaign_43 : decode cX10_campaign 43 = .ok (.iload_n 1, 1) := by decide +kernel
theorem dX10_campaign_44 : decode cX10_campaign 44 = .ok (.ireturn, 1) := by decide +kernel
theorem dX10_finishFirstPossible_0 : decode cX10_finishFirstPossible 0 = .ok (.iconst 0, 1) := by decide +kernel
theorem dX10_finishFirstPossible_1 : decode cX10_finishFirstPossible 1 = .ok (.istore_n 2, 1) := by decide +kernel
theorem dX10_finishFirstPossible_2 : decode cX10_finishFirstPossible 2 = .ok (.iload_n 2, 1) := by decide +kernel
theorem dX10_finishFirstPossible_3 : decode cX10_finishFirstPossible 3 = .ok (.aload_n 1, 1) := by decide +kernel
theorem dX10_finishFirstPossible_4 : decode cX10_finishFirstPossible 4 = .ok (.getfield 84, 3) := by decide +kernel
theorem dX10_finishFirstPossible_7 : decode cX10_finishFirstPossible 7 = .ok (.if_icmp .ge 81, 3) := by decide +kernel
theorem dX10_finishFirstPossible_10 : decode cX10_finishFirstPossible 10 = .ok (.iload_n 2, 1) := by decide +kernel
theorem dX10_finishFirstPossible_11 : decode cX10_finishFirstPossible 11 = .ok (.bipush 6, 2) := by decide +kernel
theorem dX10_finishFirstPossible_13 : decode cX10_finishFirstPossible 13 = .ok (.if_icmp .ge 75, 3) := by decide +kernel
theorem dX10_finishFirstPossible_16 : decode cX10_finishFirstPossible 16 = .ok (.aload_n 1, 1) := by decide +kernel
theorem dX10_finishFirstPossible_17 : decode cX10_finishFirstPossible 17 = .ok (.getfield 93, 3) := by decide +kernel
theorem dX10_finishFirstPossible_20 : decode cX10_finishFirstPossible 20 = .ok (.iload_n 2, 1) := by decide +kernel
theorem dX10_finishFirstPossible_21 : decode cX10_finishFirstPossible 21 = .ok (.aaload, 1) := by decide +kernel
theorem dX10_finishFirstPossible_22 : decode cX10_finishFirstPossible 22 = .ok (.astore_n 3, 1) := by decide +kernel
theorem dX10_finishFirstPossible_23 : decode cX10_finishFirstPossible 23 = .ok (.aload_n 0, 1) := by decide +kernel
theorem dX10_finishFirstPossible_24 : decode cX10_finishFirstPossible 24 = .ok (.getfield 47, 3) := by decide +kernel
theorem dX10_finishFirstPossible_27 : decode cX10_finishFirstPossible 27 = .ok (.aload_n 3, 1) := by decide +kernel
theorem dX10_finishFirstPossible_28 : decode cX10_finishFirstPossible 28 = .ok (.aload_n 1, 1) := by decide +kernel
theorem dX10_finishFirstPossible_29 : decode cX10_finishFirstPossible 29 = .ok (.getfield 121, 3) := by decide +kernel
theorem dX10_finishFirstPossible_32 : decode cX10_finishFirstPossible 32 = .ok (.invokevirtual 124, 3) := by decide +kernel
theorem dX10_finishFirstPossible_35 : decode cX10_finishFirstPossible 35 = .ok (.ifCond .eq 47, 3) := by decide +kernel
theorem dX10_finishFirstPossible_38 : decode cX10_finishFirstPossible 38 = .ok (.aload_n 0, 1) := by decide +kernel
theorem dX10_finishFirstPossible_39 : decode cX10_finishFirstPossible 39 = .ok (.getfield 47, 3) := by decide +kernel
theorem dX10_finishFirstPossible_42 : decode cX10_finishFirstPossible 42 = .ok (.aload_n 3, 1) := by decide +kernel
theorem dX10_finishFirstPossible_43 : decode cX10_finishFirstPossible 43 = .ok (.invokevirtual 191, 3) := by decide +kernel
theorem dX10_finishFirstPossible_46 : decode cX10_finishFirstPossible 46 = .ok (.istore 4, 2) := by decide +kernel
theorem dX10_finishFirstPossible_48 : decode cX10_finishFirstPossible 48 = .ok (.iconst 0, 1) := by decide +kernel
theorem dX10_finishFirstPossible_49 : decode cX10_finishFirstPossible 49 = .ok (.istore 5, 2) := by decide +kernel
theorem dX10_finishFirstPossible_51 : decode cX10_finishFirstPossible 51 = .ok (.iload 5, 2) := by decide +kernel
theorem dX10_finishFirstPossible_53 : decode cX10_finishFirstPossible 53 = .ok (.iload 4, 2) := by decide +kernel
theorem dX10_finishFirstPossible_55 : decode cX10_finishFirstPossible 55 = .ok (.if_icmp .ge 25, 3) := by decide +kernel
theorem dX10_finishFirstPossible_58 : decode cX10_finishFirstPossible 58 = .ok (.aload_n 1, 1) := by decide +kernel
theorem dX10_finishFirstPossible_59 : decode cX10_finishFirstPossible 59 = .ok (.aload_n 3, 1) := by decide +kernel
theorem dX10_finishFirstPossible_60 : decode cX10_finishFirstPossible 60 = .ok (.aload_n 0, 1) := by decide +kernel
theorem dX10_finishFirstPossible_61 : decode cX10_finishFirstPossible 61 = .ok (.getfield 47, 3) := by decide +kernel
theorem dX10_finishFirstPossible_64 : decode cX10_finishFirstPossible 64 = .ok (.aload_n 3, 1) := by decide +kernel
theorem dX10_finishFirstPossible_65 : decode cX10_finishFirstPossible 65 = .ok (.getfield 109, 3) := by decide +kernel
theorem dX10_finishFirstPossible_68 : decode cX10_finishFirstPossible 68 = .ok (.invokevirtual 201, 3) := by decide +kernel
theorem dX10_finishFirstPossible_71 : decode cX10_finishFirstPossible 71 = .ok (.invokevirtual 218, 3) := by decide +kernel
theorem dX10_finishFirstPossible_74 : decode cX10_finishFirstPossible 74 = .ok (.iinc 5 1, 3) := by decide +kernel
theorem dX10_finishFirstPossible_77 : decode cX10_finishFirstPossible 77 = .ok (.goto (-26), 3) := by decide +kernel
theorem dX10_finishFirstPossible_80 : decode cX10_finishFirstPossible 80 = .ok (.iconst 1, 1) := by decide +kernel
theorem dX10_finishFirstPossible_81 : decode cX10_finishFirstPossible 81 = .ok (.ireturn, 1) := by decide +kernel
theorem dX10_finishFirstPossible_82 : decode cX10_finishFirstPossible 82 = .ok (.iinc 2 1, 3) := by decide +kernel
theorem dX10_finishFirstPossible_85 : decode cX10_finishFirstPossible 85 = .ok (.goto (-83), 3) := by decide +kernel
theorem dX10_finishFirstPossible_88 : decode cX10_finishFirstPossible 88 = .ok (.iconst 0, 1) := by decide +kernel
theorem dX10_finishFirstPossible_89 : decode cX10_finishFirstPossible 89 = .ok (.ireturn, 1) := by decide +kernel
theorem dX10_worth_0 : decode cX10_worth 0 = .ok (.aload_n 0, 1) := by decide +kernel
theorem dX10_worth_1 : decode cX10_worth 1 = .ok (.aload_n 0, 1) := by decide +kernel
theorem dX10_worth_2 : decode cX10_worth 2 = .ok (.iload_n 1, 1) := by decide +kernel
theorem dX10_worth_3 : decode cX10_worth 3 = .ok (.invokevirtual 135, 3) := by decide +kernel
theorem dX10_worth_6 : decode cX10_worth 6 = .ok (.iload_n 1, 1) := by decide +kernel
theorem dX10_worth_7 : decode cX10_worth 7 = .ok (.invokevirtual 222, 3) := by decide +kernel
theorem dX10_worth_10 : decode cX10_worth 10 = .ok (.ireturn, 1) := by decide +kernel
theorem dX10_worthOf_0 : decode cX10_worthOf 0 = .ok (.aload_n 0, 1) := by decide +kernel
theorem dX10_worthOf_1 : decode cX10_worthOf 1 = .ok (.getfield 47, 3) := by decide +kernel
theorem dX10_worthOf_4 : decode cX10_worthOf 4 = .ok (.aload_n 1, 1) := by decide +kernel
theorem dX10_worthOf_5 : decode cX10_worthOf 5 = .ok (.aload_n 0, 1) := by decide +kernel
theorem dX10_worthOf_6 : decode cX10_worthOf 6 = .ok (.getfield 23, 3) := by decide +kernel
theorem dX10_worthOf_9 : decode cX10_worthOf 9 = .ok (.getfield 121, 3) := by decide +kernel
theorem dX10_worthOf_12 : decode cX10_worthOf 12 = .ok (.invokevirtual 124, 3) := by decide +kernel
theorem dX10_worthOf_15 : decode cX10_worthOf 15 = .ok (.pop, 1) := by decide +kernel
theorem dX10_worthOf_16 : decode cX10_worthOf 16 = .ok (.aload_n 0, 1) := by decide +kernel
theorem dX10_worthOf_17 : decode cX10_worthOf 17 = .ok (.getfield 54, 3) := by decide +kernel
theorem dX10_worthOf_20 : decode cX10_worthOf 20 = .ok (.iconst (-1), 1) := by decide +kernel
theorem dX10_worthOf_21 : decode cX10_worthOf 21 = .ok (.aload_n 0, 1) := by decide +kernel
theorem dX10_worthOf_22 : decode cX10_worthOf 22 = .ok (.getfield 47, 3) := by decide +kernel
theorem dX10_worthOf_25 : decode cX10_worthOf 25 = .ok (.aload_n 1, 1) := by decide +kernel
theorem dX10_worthOf_26 : decode cX10_worthOf 26 = .ok (.invokevirtual 191, 3) := by decide +kernel
theorem dX10_worthOf_29 : decode cX10_worthOf 29 = .ok (.invokevirtual 225, 3) := by decide +kernel
theorem dX10_worthOf_32 : decode cX10_worthOf 32 = .ok (.aload_n 0, 1) := by decide +kernel
theorem dX10_worthOf_33 : decode cX10_worthOf 33 = .ok (.getfield 54, 3) := by decide +kernel
theorem dX10_worthOf_36 : decode cX10_worthOf 36 = .ok (.bipush (-2), 2) := by decide +kernel
theorem dX10_worthOf_38 : decode cX10_worthOf 38 = .ok (.aload_n 0, 1) := by decide +kernel
theorem dX10_worthOf_39 : decode cX10_worthOf 39 = .ok (.getfield 47, 3) := by decide +kernel
theorem dX10_worthOf_42 : decode cX10_worthOf 42 = .ok (.aload_n 1, 1) := by decide +kernel
theorem dX10_worthOf_43 : decode cX10_worthOf 43 = .ok (.invokevirtual 229, 3) := by decide +kernel
theorem dX10_worthOf_46 : decode cX10_worthOf 46 = .ok (.invokevirtual 225, 3) := by decide +kernel
theorem dX10_worthOf_49 : decode cX10_worthOf 49 = .ok (.aload_n 0, 1) := by decide +kernel
theorem dX10_worthOf_50 : decode cX10_worthOf 50 = .ok (.getfield 54, 3) := by decide +kernel
theorem dX10_worthOf_53 : decode cX10_worthOf 53 = .ok (.bipush (-3), 2) := by decide +kernel
theorem dX10_worthOf_55 : decode cX10_worthOf 55 = .ok (.aload_n 1, 1) := by decide +kernel
theorem dX10_worthOf_56 : decode cX10_worthOf 56 = .ok (.getfield 109, 3) := by decide +kernel
theorem dX10_worthOf_59 : decode cX10_worthOf 59 = .ok (.invokestatic 112, 3) := by decide +kernel
theorem dX10_worthOf_62 : decode cX10_worthOf 62 = .ok (.invokevirtual 225, 3) := by decide +kernel
theorem dX10_worthOf_65 : decode cX10_worthOf 65 = .ok (.aload_n 0, 1) := by decide +kernel
theorem dX10_worthOf_66 : decode cX10_worthOf 66 = .ok (.getfield 54, 3) := by decide +kernel
theorem dX10_worthOf_69 : decode cX10_worthOf 69 = .ok (.bipush (-4), 2) := by decide +kernel
theorem dX10_worthOf_71 : decode cX10_worthOf 71 = .ok (.aload_n 1, 1) := by decide +kernel
theorem dX10_worthOf_72 : decode cX10_worthOf 72 = .ok (.invokevirtual 118, 3) := by decide +kernel
theorem dX10_worthOf_75 : decode cX10_worthOf 75 = .ok (.invokevirtual 225, 3) := by decide +kernel
theorem dX10_worthOf_78 : decode cX10_worthOf 78 = .ok (.aload_n 0, 1) := by decide +kernel
theorem dX10_worthOf_79 : decode cX10_worthOf 79 = .ok (.getfield 54, 3) := by decide +kernel
theorem dX10_worthOf_82 : decode cX10_worthOf 82 = .ok (.bipush (-5), 2) := by decide +kernel
theorem dX10_worthOf_84 : decode cX10_worthOf 84 = .ok (.aload_n 1, 1) := by decide +kernel
theorem dX10_worthOf_85 : decode cX10_worthOf 85 = .ok (.getfield 145, 3) := by decide +kernel
theorem dX10_worthOf_88 : decode cX10_worthOf 88 = .ok (.invokevirtual 225, 3) := by decide +kernel
theorem dX10_worthOf_91 : decode cX10_worthOf 91 = .ok (.aload_n 0, 1) := by decide +kernel
theorem dX10_worthOf_92 : decode cX10_worthOf 92 = .ok (.getfield 54, 3) := by decide +kernel
theorem dX10_worthOf_95 : decode cX10_worthOf 95 = .ok (.bipush (-6), 2) := by decide +kernel
theorem dX10_worthOf_97 : decode cX10_worthOf 97 = .ok (.iload_n 2, 1) := by decide +kernel
theorem dX10_worthOf_98 : decode cX10_worthOf 98 = .ok (.invokevirtual 225, 3) := by decide +kernel
theorem dX10_worthOf_101 : decode cX10_worthOf 101 = .ok (.aload_n 0, 1) := by decide +kernel
theorem dX10_worthOf_102 : decode cX10_worthOf 102 = .ok (.getfield 54, 3) := by decide +kernel
theorem dX10_worthOf_105 : decode cX10_worthOf 105 = .ok (.aload_n 0, 1) := by decide +kernel
theorem dX10_worthOf_106 : decode cX10_worthOf 106 = .ok (.getfield 23, 3) := by decide +kernel
theorem dX10_worthOf_109 : decode cX10_worthOf 109 = .ok (.getfield 232, 3) := by decide +kernel
theorem dX10_worthOf_112 : decode cX10_worthOf 112 = .ok (.aload_n 0, 1) := by decide +kernel
theorem dX10_worthOf_113 : decode cX10_worthOf 113 = .ok (.getfield 23, 3) := by decide +kernel
theorem dX10_worthOf_116 : decode cX10_worthOf 116 = .ok (.getfield 235, 3) := by decide +kernel
theorem dX10_worthOf_119 : decode cX10_worthOf 119 = .ok (.invokevirtual 238, 3) := by decide +kernel
theorem dX10_worthOf_122 : decode cX10_worthOf 122 = .ok (.ireturn, 1) := by decide +kernel
theorem dX10_best_0 : decode cX10_best 0 = .ok (.iconst (-1), 1) := by decide +kernel
theorem dX10_best_1 : decode cX10_best 1 = .ok (.istore_n 1, 1) := by decide +kernel
theorem dX10_best_2 : decode cX10_best 2 = .ok (.iconst 0, 1) := by decide +kernel
theorem dX10_best_3 : decode cX10_best 3 = .ok (.istore_n 2, 1) := by decide +kernel
theorem dX10_best_4 : decode cX10_best 4 = .ok (.iconst 0, 1) := by decide +kernel
theorem dX10_best_5 : decode cX10_best 5 = .ok (.istore_n 3, 1) := by decide +kernel
theorem dX10_best_6 : decode cX10_best 6 = .ok (.iload_n 3, 1) := by decide +kernel
theorem dX10_best_7 : decode cX10_best 7 = .ok (.aload_n 0, 1) := by decide +kernel
theorem dX10_best_8 : decode cX10_best 8 = .ok (.getfield 23, 3) := by decide +kernel
theorem dX10_best_11 : decode cX10_best 11 = .ok (.getfield 84, 3) := by decide +kernel
theorem dX10_best_14 : decode cX10_best 14 = .ok (.if_icmp .ge 69, 3) := by decide +kernel
theorem dX10_best_17 : decode cX10_best 17 = .ok (.iload_n 3, 1) := by decide +kernel
theorem dX10_best_18 : decode cX10_best 18 = .ok (.bipush 6, 2) := by decide +kernel
theorem dX10_best_20 : decode cX10_best 20 = .ok (.if_icmp .ge 63, 3) := by decide +kernel
theorem dX10_best_23 : decode cX10_best 23 = .ok (.aload_n 0, 1) := by decide +kernel
theorem dX10_best_24 : decode cX10_best 24 = .ok (.getfield 23, 3) := by decide +kernel
theorem dX10_best_27 : decode cX10_best 27 = .ok (.getfield 93, 3) := by decide +kernel
theorem dX10_best_30 : decode cX10_best 30 = .ok (.iload_n 3, 1) := by decide +kernel
theorem dX10_best_31 : decode cX10_best 31 = .ok (.aaload, 1) := by decide +kernel
theorem dX10_best_32 : decode cX10_best 32 = .ok (.astore 4, 2) := by decide +kernel
theorem dX10_best_34 : decode cX10_best 34 = .ok (.aload_n 0, 1) := by decide +kernel
theorem dX10_best_35 : decode cX10_best 35 = .ok (.getfield 47, 3) := by decide +kernel
theorem dX10_best_38 : decode cX10_best 38 = .ok (.aload 4, 2) := by decide +kernel
theorem dX10_best_40 : decode cX10_best 40 = .ok (.aload_n 0, 1) := by decide +kernel
theorem dX10_best_41 : decode cX10_best 41 = .ok (.getfield 23, 3) := by decide +kernel
theorem dX10_best_44 : decode cX10_best 44 = .ok (.getfield 121, 3) := by decide +kernel
theorem dX10_best_47 : decode cX10_best 47 = .ok (.invokevirtual 124, 3) := by decide +kernel
theorem dX10_best_50 : decode cX10_best 50 = .ok (.ifCond .eq 27, 3) := by decide +kernel
theorem dX10_best_53 : decode cX10_best 53 = .ok (.aload_n 0, 1) := by decide +kernel
theorem dX10_best_54 : decode cX10_best 54 = .ok (.aload 4, 2) := by decide +kernel
theorem dX10_best_56 : decode cX10_best 56 = .ok (.iload_n 3, 1) := by decide +kernel
theorem dX10_best_57 : decode cX10_best 57 = .ok (.invokevirtual 222, 3) := by decide +kernel
theorem dX10_best_60 : decode cX10_best 60 = .ok (.istore 5, 2) := by decide +kernel
theorem dX10_best_62 : decode cX10_best 62 = .ok (.iload_n 1, 1) := by decide +kernel
theorem dX10_best_63 : decode cX10_best 63 = .ok (.ifCond .lt 9, 3) := by decide +kernel
theorem dX10_best_66 : decode cX10_best 66 = .ok (.iload 5, 2) := by decide +kernel
theorem dX10_best_68 : decode cX10_best 68 = .ok (.iload_n 2, 1) := by decide +kernel
theorem dX10_best_69 : decode cX10_best 69 = .ok (.if_icmp .le 8, 3) := by decide +kernel
theorem dX10_best_72 : decode cX10_best 72 = .ok (.iload_n 3, 1) := by decide +kernel
theorem dX10_best_73 : decode cX10_best 73 = .ok (.istore_n 1, 1) := by decide +kernel
theorem dX10_best_74 : decode cX10_best 74 = .ok (.iload 5, 2) := by decide +kernel
theorem dX10_best_76 : decode cX10_best 76 = .ok (.istore_n 2, 1) := by decide +kernel
theorem dX10_best_77 : decode cX10_best 77 = .ok (.iinc 3 1, 3) := by decide +kernel
theorem dX10_best_80 : decode cX10_best 80 = .ok (.goto (-74), 3) := by decide +kernel
theorem dX10_best_83 : decode cX10_best 83 = .ok (.iload_n 1, 1) := by decide +kernel
theorem dX10_best_84 : decode cX10_best 84 = .ok (.ireturn, 1) := by decide +kernel
theorem dX10_chance_0 : decode cX10_chance 0 = .ok (.aload_n 0, 1) := by decide +kernel
theorem dX10_chance_1 : decode cX10_chance 1 = .ok (.iload_n 1, 1) := by decide +kernel
theorem dX10_chance_2 : decode cX10_chance 2 = .ok (.invokevirtual 135, 3) := by decide +kernel
theorem dX10_chance_5 : decode cX10_chance 5 = .ok (.astore_n 2, 1) := by decide +kernel
theorem dX10_chance_6 : decode cX10_chance 6 = .ok (.aload_n 0, 1) := by decide +kernel
theorem dX10_chance_7 : decode cX10_chance 7 = .ok (.getfield 47, 3) := by decide +kernel
theorem dX10_chance_10 : decode cX10_chance 10 = .ok (.aload_n 2, 1) := by decide +kernel
theorem dX10_chance_11 : decode cX10_chance 11 = .ok (.aload_n 0, 1) := by decide +kernel
theorem dX10_chance_12 : decode cX10_chance 12 = .ok (.getfield 23, 3) := by decide +kernel
theorem dX10_chance_15 : decode cX10_chance 15 = .ok (.getfield 121, 3) := by decide +kernel
theorem dX10_chance_18 : decode cX10_chance 18 = .ok (.invokevirtual 124, 3) := by decide +kernel
theorem dX10_chance_21 : decode cX10_chance 21 = .ok (.ifCond .ne 5, 3) := by decide +kernel
theorem dX10_chance_24 : decode cX10_chance 24 = .ok (.dconst 0, 1) := by decide +kernel
theorem dX10_chance_25 : decode cX10_chance 25 = .ok (.dreturn, 1) := by decide +kernel
theorem dX10_chance_26 : decode cX10_chance 26 = .ok (.dconst 1, 1) := by decide +kernel
theorem dX10_chance_27 : decode cX10_chance 27 = .ok (.dstore_n 3, 1) := by decide +kernel
theorem dX10_chance_28 : decode cX10_chance 28 = .ok (.aload_n 2, 1) := by decide +kernel
theorem dX10_chance_29 : decode cX10_chance 29 = .ok (.getfield 109, 3) := by decide +kernel
theorem dX10_chance_32 : decode cX10_chance 32 = .ok (.istore 5, 2) := by decide +kernel
theorem dX10_chance_34 : decode cX10_chance 34 = .ok (.aload_n 0, 1) := by decide +kernel
theorem dX10_chance_35 : decode cX10_chance 35 = .ok (.getfield 47, 3) := by decide +kernel
theorem dX10_chance_38 : decode cX10_chance 38 = .ok (.aload_n 2, 1) := by decide +kernel
theorem dX10_chance_39 : decode cX10_chance 39 = .ok (.invokevirtual 191, 3) := by decide +kernel
theorem dX10_chance_42 : decode cX10_chance 42 = .ok (.istore 6, 2) := by decide +kernel
theorem dX10_chance_44 : decode cX10_chance 44 = .ok (.iconst 0, 1) := by decide +kernel
theorem dX10_chance_45 : decode cX10_chance 45 = .ok (.istore 7, 2) := by decide +kernel
theorem dX10_chance_47 : decode cX10_chance 47 = .ok (.iload 7, 2) := by decide +kernel
theorem dX10_chance_49 : decode cX10_chance 49 = .ok (.iload 6, 2) := by decide +kernel
theorem dX10_chance_51 : decode cX10_chance 51 = .ok (.if_icmp .ge 49, 3) := by decide +kernel
theorem dX10_chance_54 : decode cX10_chance 54 = .ok (.aload_n 0, 1) := by decide +kernel
theorem dX10_chance_55 : decode cX10_chance 55 = .ok (.getfield 47, 3) := by decide +kernel
theorem dX10_chance_58 : decode cX10_chance 58 = .ok (.iload 5, 2) := by decide +kernel
theorem dX10_chance_60 : decode cX10_chance 60 = .ok (.invokevirtual 201, 3) := by decide +kernel
theorem dX10_chance_63 : decode cX10_chance 63 = .ok (.istore 8, 2) := by decide +kernel
theorem dX10_chance_65 : decode cX10_chance 65 = .ok (.dload_n 3, 1) := by decide +kernel
theorem dX10_chance_66 : decode cX10_chance 66 = .ok (.bipush 100, 2) := by decide +kernel
theorem dX10_chance_68 : decode cX10_chance 68 = .ok (.aload_n 2, 1) := by decide +kernel
theorem dX10_chance_69 : decode cX10_chance 69 = .ok (.getfield 156, 3) := by decide +kernel
theorem dX10_chance_72 : decode cX10_chance 72 = .ok (.iload 8, 2) := by decide +kernel
theorem dX10_chance_74 : decode cX10_chance 74 = .ok (.invokestatic 131, 3) := by decide +kernel
theorem dX10_chance_77 : decode cX10_chance 77 = .ok (.isub, 1) := by decide +kernel
theorem dX10_chance_78 : decode cX10_chance 78 = .ok (.i2d, 1) := by decide +kernel
theorem dX10_chance_79 : decode cX10_chance 79 = .ok (.ldc2_w 241, 3) := by decide +kernel
theorem dX10_chance_82 : decode cX10_chance 82 = .ok (.ddiv, 1) := by decide +kernel
theorem dX10_chance_83 : decode cX10_chance 83 = .ok (.dmul, 1) := by decide +kernel
theorem dX10_chance_84 : decode cX10_chance 84 = .ok (.dstore_n 3, 1) := by decide +kernel
theorem dX10_chance_85 : decode cX10_chance 85 = .ok (.iload 5, 2) := by decide +kernel
theorem dX10_chance_87 : decode cX10_chance 87 = .ok (.iconst 1, 1) := by decide +kernel
theorem dX10_chance_88 : decode cX10_chance 88 = .ok (.iload 8, 2) := by decide +kernel
theorem dX10_chance_90 : decode cX10_chance 90 = .ok (.ishl, 1) := by decide +kernel
theorem dX10_chance_91 : decode cX10_chance 91 = .ok (.ior, 1) := by decide +kernel
theorem dX10_chance_92 : decode cX10_chance 92 = .ok (.istore 5, 2) := by decide +kernel
theorem dX10_chance_94 : decode cX10_chance 94 = .ok (.iinc 7 1, 3) := by decide +kernel
theorem dX10_chance_97 : decode cX10_chance 97 = .ok (.goto (-50), 3) := by decide +kernel
theorem dX10_chance_100 : decode cX10_chance 100 = .ok (.dload_n 3, 1) := by decide +kernel
theorem dX10_chance_101 : decode cX10_chance 101 = .ok (.dreturn, 1) := by decide +kernel
theorem dX10_progress_0 : decode cX10_progress 0 = .ok (.aload_n 0, 1) := by decide +kernel
theorem dX10_progress_1 : decode cX10_progress 1 = .ok (.iconst 1, 1) := by decide +kernel
theorem dX10_progress_2 : decode cX10_progress 2 = .ok (.invokevirtual 243, 3) := by decide +kernel
theorem dX10_progress_5 : decode cX10_progress 5 = .ok (.istore_n 1, 1) := by decide +kernel
theorem dX10_progress_6 : decode cX10_progress 6 = .ok (.iload_n 1, 1) := by decide +kernel
theorem dX10_progress_7 : decode cX10_progress 7 = .ok (.ifCond .gt 5, 3) := by decide +kernel
theorem dX10_progress_10 : decode cX10_progress 10 = .ok (.fconst 0, 1) := by decide +kernel
theorem dX10_progress_11 : decode cX10_progress 11 = .ok (.freturn, 1) := by decide +kernel
theorem dX10_progress_12 : decode cX10_progress 12 = .ok (.aload_n 0, 1) := by decide +kernel
theorem dX10_progress_13 : decode cX10_progress 13 = .ok (.iconst 4, 1) := by decide +kernel
theorem dX10_progress_14 : decode cX10_progress 14 = .ok (.invokevirtual 243, 3) := by decide +kernel
theorem dX10_progress_17 : decode cX10_progress 17 = .ok (.i2f, 1) := by decide +kernel
theorem dX10_progress_18 : decode cX10_progress 18 = .ok (.iload_n 1, 1) := by decide +kernel
theorem dX10_progress_19 : decode cX10_progress 19 = .ok (.i2f, 1) := by decide +kernel
theorem dX10_progress_20 : decode cX10_progress 20 = .ok (.fdiv, 1) := by decide +kernel
theorem dX10_progress_21 : decode cX10_progress 21 = .ok (.freturn, 1) := by decide +kernel
theorem dX10_tell_0 : decode cX10_tell 0 = .ok (.iload_n 1, 1) := by decide +kernel
theorem dX10_tell_1 : decode cX10_tell 1 = .ok (.ifCond .lt 19, 3) := by decide +kernel
theorem dX10_tell_4 : decode cX10_tell 4 = .ok (.iload_n 1, 1) := by decide +kernel
theorem dX10_tell_5 : decode cX10_tell 5 = .ok (.bipush 99, 2) := by decide +kernel
theorem dX10_tell_7 : decode cX10_tell 7 = .ok (.if_icmp .gt 13, 3) := by decide +kernel
theorem dX10_tell_10 : decode cX10_tell 10 = .ok (.iload_n 2, 1) := by decide +kernel
theorem dX10_tell_11 : decode cX10_tell 11 = .ok (.ifCond .lt 9, 3) := by decide +kernel
theorem dX10_tell_14 : decode cX10_tell 14 = .ok (.iload_n 2, 1) := by decide +kernel
theorem dX10_tell_15 : decode cX10_tell 15 = .ok (.bipush 99, 2) := by decide +kernel
theorem dX10_tell_17 : decode cX10_tell 17 = .ok (.if_icmp .le 11, 3) := by decide +kernel
theorem dX10_tell_20 : decode cX10_tell 20 = .ok (.new 66, 3) := by decide +kernel
theorem dX10_tell_23 : decode cX10_tell 23 = .ok (.dup, 1) := by decide +kernel
theorem dX10_tell_24 : decode cX10_tell 24 = .ok (.invokespecial 68, 3) := by decide +kernel
theorem dX10_tell_27 : decode cX10_tell 27 = .ok (.athrow, 1) := by decide +kernel
theorem dX10_tell_28 : decode cX10_tell 28 = .ok (.aload_n 0, 1) := by decide +kernel
theorem dX10_tell_29 : decode cX10_tell 29 = .ok (.getfield 23, 3) := by decide +kernel
theorem dX10_tell_32 : decode cX10_tell 32 = .ok (.getfield 87, 3) := by decide +kernel
theorem dX10_tell_35 : decode cX10_tell 35 = .ok (.iconst 2, 1) := by decide +kernel
theorem dX10_tell_36 : decode cX10_tell 36 = .ok (.iadd, 1) := by decide +kernel
theorem dX10_tell_37 : decode cX10_tell 37 = .ok (.bipush 40, 2) := by decide +kernel
theorem dX10_tell_39 : decode cX10_tell 39 = .ok (.if_icmp .le 11, 3) := by decide +kernel
theorem dX10_tell_42 : decode cX10_tell 42 = .ok (.new 246, 3) := by decide +kernel
theorem dX10_tell_45 : decode cX10_tell 45 = .ok (.dup, 1) := by decide +kernel
theorem dX10_tell_46 : decode cX10_tell 46 = .ok (.invokespecial 248, 3) := by decide +kernel
theorem dX10_tell_49 : decode cX10_tell 49 = .ok (.athrow, 1) := by decide +kernel
theorem dX10_tell_50 : decode cX10_tell 50 = .ok (.aload_n 0, 1) := by decide +kernel
theorem dX10_tell_51 : decode cX10_tell 51 = .ok (.getfield 33, 3) := by decide +kernel
theorem dX10_tell_54 : decode cX10_tell 54 = .ok (.aload_n 0, 1) := by decide +kernel
theorem dX10_tell_55 : decode cX10_tell 55 = .ok (.getfield 23, 3) := by decide +kernel
theorem dX10_tell_58 : decode cX10_tell 58 = .ok (.invokevirtual 77, 3) := by decide +kernel
theorem dX10_tell_61 : decode cX10_tell 61 = .ok (.aload_n 0, 1) := by decide +kernel
theorem dX10_tell_62 : decode cX10_tell 62 = .ok (.getfield 23, 3) := by decide +kernel
theorem dX10_tell_65 : decode cX10_tell 65 = .ok (.iload_n 1, 1) := by decide +kernel
theorem dX10_tell_66 : decode cX10_tell 66 = .ok (.invokevirtual 249, 3) := by decide +kernel
theorem dX10_tell_69 : decode cX10_tell 69 = .ok (.aload_n 0, 1) := by decide +kernel
theorem dX10_tell_70 : decode cX10_tell 70 = .ok (.getfield 23, 3) := by decide +kernel
theorem dX10_tell_73 : decode cX10_tell 73 = .ok (.iload_n 2, 1) := by decide +kernel
theorem dX10_tell_74 : decode cX10_tell 74 = .ok (.invokevirtual 249, 3) := by decide +kernel
theorem dX10_tell_77 : decode cX10_tell 77 = .ok (.aload_n 0, 1) := by decide +kernel
theorem dX10_tell_78 : decode cX10_tell 78 = .ok (.getfield 23, 3) := by decide +kernel
theorem dX10_tell_81 : decode cX10_tell 81 = .ok (.getfield 87, 3) := by decide +kernel
theorem dX10_tell_84 : decode cX10_tell 84 = .ok (.ireturn, 1) := by decide +kernel
theorem dX10_attempt_0 : decode cX10_attempt 0 = .ok (.aload_n 0, 1) := by decide +kernel
theorem dX10_attempt_1 : decode cX10_attempt 1 = .ok (.iload_n 1, 1) := by decide +kernel
theorem dX10_attempt_2 : decode cX10_attempt 2 = .ok (.iload_n 2, 1) := by decide +kernel
theorem dX10_attempt_3 : decode cX10_attempt 3 = .ok (.invokevirtual 152, 3) := by decide +kernel
theorem dX10_attempt_6 : decode cX10_attempt 6 = .ok (.astore_n 3, 1) := by decide +kernel
theorem dX10_attempt_7 : decode cX10_attempt 7 = .ok (.aload_n 3, 1) := by decide +kernel
theorem dX10_attempt_8 : decode cX10_attempt 8 = .ok (.iload_n 2, 1) := by decide +kernel
theorem dX10_attempt_9 : decode cX10_attempt 9 = .ok (.aload_n 0, 1) := by decide +kernel
theorem dX10_attempt_10 : decode cX10_attempt 10 = .ok (.getfield 23, 3) := by decide +kernel
theorem dX10_attempt_13 : decode cX10_attempt 13 = .ok (.getfield 121, 3) := by decide +kernel
theorem dX10_attempt_16 : decode cX10_attempt 16 = .ok (.invokevirtual 184, 3) := by decide +kernel
theorem dX10_attempt_19 : decode cX10_attempt 19 = .ok (.ifCond .eq 11, 3) := by decide +kernel
theorem dX10_attempt_22 : decode cX10_attempt 22 = .ok (.new 246, 3) := by decide +kernel
theorem dX10_attempt_25 : decode cX10_attempt 25 = .ok (.dup, 1) := by decide +kernel
theorem dX10_attempt_26 : decode cX10_attempt 26 = .ok (.invokespecial 248, 3) := by decide +kernel
theorem dX10_attempt_29 : decode cX10_attempt 29 = .ok (.athrow, 1) := by decide +kernel
theorem dX10_attempt_30 : decode cX10_attempt 30 = .ok (.aload_n 0, 1) := by decide +kernel
theorem dX10_attempt_31 : decode cX10_attempt 31 = .ok (.getfield 33, 3) := by decide +kernel
theorem dX10_attempt_34 : decode cX10_attempt 34 = .ok (.aload_n 0, 1) := by decide +kernel
theorem dX10_attempt_35 : decode cX10_attempt 35 = .ok (.getfield 23, 3) := by decide +kernel
theorem dX10_attempt_38 : decode cX10_attempt 38 = .ok (.invokevirtual 77, 3) := by decide +kernel
theorem dX10_attempt_41 : decode cX10_attempt 41 = .ok (.aload_n 0, 1) := by decide +kernel
theorem dX10_attempt_42 : decode cX10_attempt 42 = .ok (.getfield 23, 3) := by decide +kernel
theorem dX10_attempt_45 : decode cX10_attempt 45 = .ok (.aload_n 3, 1) := by decide +kernel
theorem dX10_attempt_46 : decode cX10_attempt 46 = .ok (.iload_n 2, 1) := by decide +kernel
theorem dX10_attempt_47 : decode cX10_attempt 47 = .ok (.invokevirtual 252, 3) := by decide +kernel
theorem dX10_attempt_50 : decode cX10_attempt 50 = .ok (.ireturn, 1) := by decide +kernel
theorem dX10_play_0 : decode cX10_play 0 = .ok (.aload_n 0, 1) := by decide +kernel
theorem dX10_play_1 : decode cX10_play 1 = .ok (.iload_n 1, 1) := by decide +kernel
theorem dX10_play_2 : decode cX10_play 2 = .ok (.invokevirtual 135, 3) := by decide +kernel
theorem dX10_play_5 : decode cX10_play 5 = .ok (.astore_n 2, 1) := by decide +kernel
theorem dX10_play_6 : decode cX10_play 6 = .ok (.aload_n 0, 1) := by decide +kernel
theorem dX10_play_7 : decode cX10_play 7 = .ok (.getfield 33, 3) := by decide +kernel
theorem dX10_play_10 : decode cX10_play 10 = .ok (.aload_n 0, 1) := by decide +kernel
theorem dX10_play_11 : decode cX10_play 11 = .ok (.getfield 23, 3) := by decide +kernel
theorem dX10_play_14 : decode cX10_play 14 = .ok (.invokevirtual 77, 3) := by decide +kernel
theorem dX10_play_17 : decode cX10_play 17 = .ok (.iconst 0, 1) := by decide +kernel
theorem dX10_play_18 : decode cX10_play 18 = .ok (.istore_n 3, 1) := by decide +kernel
theorem dX10_play_19 : decode cX10_play 19 = .ok (.iload_n 3, 1) := by decide +kernel
theorem dX10_play_20 : decode cX10_play 20 = .ok (.ldc 255, 2) := by decide +kernel
theorem dX10_play_22 : decode cX10_play 22 = .ok (.if_icmp .ge 47, 3) := by decide +kernel
theorem dX10_play_25 : decode cX10_play 25 = .ok (.aload_n 0, 1) := by decide +kernel
theorem dX10_play_26 : decode cX10_play 26 = .ok (.getfield 47, 3) := by decide +kernel
theorem dX10_play_29 : decode cX10_play 29 = .ok (.aload_n 2, 1) := by decide +kernel
theorem dX10_play_30 : decode cX10_play 30 = .ok (.aload_n 0, 1) := by decide +kernel
theorem dX10_play_31 : decode cX10_play 31 = .ok (.getfield 23, 3) := by decide +kernel
theorem dX10_play_34 : decode cX10_play 34 = .ok (.getfield 121, 3) := by decide +kernel
theorem dX10_play_37 : decode cX10_play 37 = .ok (.invokevirtual 124, 3) := by decide +kernel
theorem dX10_play_40 : decode cX10_play 40 = .ok (.ifCond .eq 29, 3) := by decide +kernel
theorem dX10_play_43 : decode cX10_play 43 = .ok (.aload_n 0, 1) := by decide +kernel
theorem dX10_play_44 : decode cX10_play 44 = .ok (.getfield 23, 3) := by decide +kernel
theorem dX10_play_47 : decode cX10_play 47 = .ok (.aload_n 2, 1) := by decide +kernel
theorem dX10_play_48 : decode cX10_play 48 = .ok (.aload_n 0, 1) := by decide +kernel
theorem dX10_play_49 : decode cX10_play 49 = .ok (.getfield 47, 3) := by decide +kernel
theorem dX10_play_52 : decode cX10_play 52 = .ok (.aload_n 2, 1) := by decide +kernel
theorem dX10_play_53 : decode cX10_play 53 = .ok (.getfield 109, 3) := by decide +kernel
theorem dX10_play_56 : decode cX10_play 56 = .ok (.invokevirtual 201, 3) := by decide +kernel
theorem dX10_play_59 : decode cX10_play 59 = .ok (.invokevirtual 252, 3) := by decide +kernel
theorem dX10_play_62 : decode cX10_play 62 = .ok (.pop, 1) := by decide +kernel
theorem dX10_play_63 : decode cX10_play 63 = .ok (.iinc 3 1, 3) := by decide +kernel
theorem dX10_play_66 : decode cX10_play 66 = .ok (.goto (-47), 3) := by decide +kernel
theorem dX10_play_69 : decode cX10_play 69 = .ok (.iload_n 3, 1) := by decide +kernel
theorem dX10_play_70 : decode cX10_play 70 = .ok (.ireturn, 1) := by decide +kernel
theorem dX10_add_0 : decode cX10_add 0 = .ok (.iload_n 1, 1) := by decide +kernel
theorem dX10_add_1 : decode cX10_add 1 = .ok (.invokestatic 128, 3) := by decide +kernel
theorem dX10_add_4 : decode cX10_add 4 = .ok (.iload_n 2, 1) := by decide +kernel
theorem dX10_add_5 : decode cX10_add 5 = .ok (.invokestatic 256, 3) := by decide +kernel
theorem dX10_add_8 : decode cX10_add 8 = .ok (.aload_n 0, 1) := by decide +kernel
theorem dX10_add_9 : decode cX10_add 9 = .ok (.getfield 23, 3) := by decide +kernel
theorem dX10_add_12 : decode cX10_add 12 = .ok (.getfield 121, 3) := by decide +kernel
theorem dX10_add_15 : decode cX10_add 15 = .ok (.iload_n 1, 1) := by decide +kernel
theorem dX10_add_16 : decode cX10_add 16 = .ok (.invokestatic 131, 3) := by decide +kernel
theorem dX10_add_19 : decode cX10_add 19 = .ok (.iload_n 2, 1) := by decide +kernel
theorem dX10_add_20 : decode cX10_add 20 = .ok (.iadd, 1) := by decide +kernel
theorem dX10_add_21 : decode cX10_add 21 = .ok (.istore_n 3, 1) := by decide +kernel
theorem dX10_add_22 : decode cX10_add 22 = .ok (.iload_n 3, 1) := by decide +kernel
theorem dX10_add_23 : decode cX10_add 23 = .ok (.ldc_w 259, 3) := by decide +kernel
theorem dX10_add_26 : decode cX10_add 26 = .ok (.if_icmp .le 11, 3) := by decide +kernel
theorem dX10_add_29 : decode cX10_add 29 = .ok (.new 246, 3) := by decide +kernel
theorem dX10_add_32 : decode cX10_add 32 = .ok (.dup, 1) := by decide +kernel
theorem dX10_add_33 : decode cX10_add 33 = .ok (.invokespecial 248, 3) := by decide +kernel
theorem dX10_add_36 : decode cX10_add 36 = .ok (.athrow, 1) := by decide +kernel
theorem dX10_add_37 : decode cX10_add 37 = .ok (.aload_n 0, 1) := by decide +kernel
theorem dX10_add_38 : decode cX10_add 38 = .ok (.getfield 33, 3) := by decide +kernel
theorem dX10_add_41 : decode cX10_add 41 = .ok (.aload_n 0, 1) := by decide +kernel
theorem dX10_add_42 : decode cX10_add 42 = .ok (.getfield 23, 3) := by decide +kernel
theorem dX10_add_45 : decode cX10_add 45 = .ok (.invokevirtual 77, 3) := by decide +kernel
theorem dX10_add_48 : decode cX10_add 48 = .ok (.aload_n 0, 1) := by decide +kernel
theorem dX10_add_49 : decode cX10_add 49 = .ok (.getfield 23, 3) := by decide +kernel
theorem dX10_add_52 : decode cX10_add 52 = .ok (.getfield 121, 3) := by decide +kernel
theorem dX10_add_55 : decode cX10_add 55 = .ok (.iload_n 1, 1) := by decide +kernel
theorem dX10_add_56 : decode cX10_add 56 = .ok (.iload_n 3, 1) := by decide +kernel
theorem dX10_add_57 : decode cX10_add 57 = .ok (.invokestatic 62, 3) := by decide +kernel
theorem dX10_add_60 : decode cX10_add 60 = .ok (.iload_n 3, 1) := by decide +kernel
theorem dX10_add_61 : decode cX10_add 61 = .ok (.ireturn, 1) := by decide +kernel
theorem dX10_spend_0 : decode cX10_spend 0 = .ok (.iload_n 1, 1) := by decide +kernel
theorem dX10_spend_1 : decode cX10_spend 1 = .ok (.invokestatic 128, 3) := by decide +kernel
theorem dX10_spend_4 : decode cX10_spend 4 = .ok (.iload_n 2, 1) := by decide +kernel
theorem dX10_spend_5 : decode cX10_spend 5 = .ok (.invokestatic 256, 3) := by decide +kernel
theorem dX10_spend_8 : decode cX10_spend 8 = .ok (.aload_n 0, 1) := by decide +kernel
theorem dX10_spend_9 : decode cX10_spend 9 = .ok (.getfield 23, 3) := by decide +kernel
theorem dX10_spend_12 : decode cX10_spend 12 = .ok (.getfield 121, 3) := by decide +kernel
theorem dX10_spend_15 : decode cX10_spend 15 = .ok (.iload_n 1, 1) := by decide +kernel
theorem dX10_spend_16 : decode cX10_spend 16 = .ok (.invokestatic 131, 3) := by decide +kernel
theorem dX10_spend_19 : decode cX10_spend 19 = .ok (.iload_n 2, 1) := by decide +kernel
theorem dX10_spend_20 : decode cX10_spend 20 = .ok (.isub, 1) := by decide +kernel
theorem dX10_spend_21 : decode cX10_spend 21 = .ok (.istore_n 3, 1) := by decide +kernel
theorem dX10_spend_22 : decode cX10_spend 22 = .ok (.iload_n 3, 1) := by decide +kernel
theorem dX10_spend_23 : decode cX10_spend 23 = .ok (.ifCond .ge 11, 3) := by decide +kernel
theorem dX10_spend_26 : decode cX10_spend 26 = .ok (.new 246, 3) := by decide +kernel
theorem dX10_spend_29 : decode cX10_spend 29 = .ok (.dup, 1) := by decide +kernel
theorem dX10_spend_30 : decode cX10_spend 30 = .ok (.invokespecial 248, 3) := by decide +kernel
theorem dX10_spend_33 : decode cX10_spend 33 = .ok (.athrow, 1) := by decide +kernel
theorem dX10_spend_34 : decode cX10_spend 34 = .ok (.aload_n 0, 1) := by decide +kernel
theorem dX10_spend_35 : decode cX10_spend 35 = .ok (.getfield 33, 3) := by decide +kernel
theorem dX10_spend_38 : decode cX10_spend 38 = .ok (.aload_n 0, 1) := by decide +kernel
theorem dX10_spend_39 : decode cX10_spend 39 = .ok (.getfield 23, 3) := by decide +kernel
theorem dX10_spend_42 : decode cX10_spend 42 = .ok (.invokevirtual 77, 3) := by decide +kernel
theorem dX10_spend_45 : decode cX10_spend 45 = .ok (.aload_n 0, 1) := by decide +kernel
theorem dX10_spend_46 : decode cX10_spend 46 = .ok (.getfield 23, 3) := by decide +kernel
theorem dX10_spend_49 : decode cX10_spend 49 = .ok (.getfield 121, 3) := by decide +kernel
theorem dX10_spend_52 : decode cX10_spend 52 = .ok (.iload_n 1, 1) := by decide +kernel
theorem dX10_spend_53 : decode cX10_spend 53 = .ok (.iload_n 3, 1) := by decide +kernel
theorem dX10_spend_54 : decode cX10_spend 54 = .ok (.invokestatic 62, 3) := by decide +kernel
theorem dX10_spend_57 : decode cX10_spend 57 = .ok (.iload_n 3, 1) := by decide +kernel
theorem dX10_spend_58 : decode cX10_spend 58 = .ok (.ireturn, 1) := by decide +kernel
theorem dX10_mend_0 : decode cX10_mend 0 = .ok (.aload_n 0, 1) := by decide +kernel
theorem dX10_mend_1 : decode cX10_mend 1 = .ok (.iload_n 1, 1) := by decide +kernel
theorem dX10_mend_2 : decode cX10_mend 2 = .ok (.iload_n 2, 1) := by decide +kernel
theorem dX10_mend_3 : decode cX10_mend 3 = .ok (.invokevirtual 152, 3) := by decide +kernel
theorem dX10_mend_6 : decode cX10_mend 6 = .ok (.astore_n 3, 1) := by decide +kernel
theorem dX10_mend_7 : decode cX10_mend 7 = .ok (.aload_n 0, 1) := by decide +kernel
theorem dX10_mend_8 : decode cX10_mend 8 = .ok (.getfield 33, 3) := by decide +kernel
theorem dX10_mend_11 : decode cX10_mend 11 = .ok (.aload_n 0, 1) := by decide +kernel
theorem dX10_mend_12 : decode cX10_mend 12 = .ok (.getfield 23, 3) := by decide +kernel
theorem dX10_mend_15 : decode cX10_mend 15 = .ok (.invokevirtual 77, 3) := by decide +kernel
theorem dX10_mend_18 : decode cX10_mend 18 = .ok (.aload_n 3, 1) := by decide +kernel
theorem dX10_mend_19 : decode cX10_mend 19 = .ok (.getfield 162, 3) := by decide +kernel
theorem dX10_mend_22 : decode cX10_mend 22 = .ok (.iload_n 2, 1) := by decide +kernel
theorem dX10_mend_23 : decode cX10_mend 23 = .ok (.invokestatic 131, 3) := by decide +kernel
theorem dX10_mend_26 : decode cX10_mend 26 = .ok (.istore 4, 2) := by decide +kernel
theorem dX10_mend_28 : decode cX10_mend 28 = .ok (.aload_n 3, 1) := by decide +kernel
theorem dX10_mend_29 : decode cX10_mend 29 = .ok (.getfield 162, 3) := by decide +kernel
theorem dX10_mend_32 : decode cX10_mend 32 = .ok (.iload_n 2, 1) := by decide +kernel
theorem dX10_mend_33 : decode cX10_mend 33 = .ok (.iconst 0, 1) := by decide +kernel
theorem dX10_mend_34 : decode cX10_mend 34 = .ok (.invokestatic 62, 3) := by decide +kernel
theorem dX10_mend_37 : decode cX10_mend 37 = .ok (.iload 4, 2) := by decide +kernel
theorem dX10_mend_39 : decode cX10_mend 39 = .ok (.ireturn, 1) := by decide +kernel
theorem dX10_giveUp_0 : decode cX10_giveUp 0 = .ok (.aload_n 0, 1) := by decide +kernel
theorem dX10_giveUp_1 : decode cX10_giveUp 1 = .ok (.iload_n 1, 1) := by decide +kernel
theorem dX10_giveUp_2 : decode cX10_giveUp 2 = .ok (.invokevirtual 135, 3) := by decide +kernel
theorem dX10_giveUp_5 : decode cX10_giveUp 5 = .ok (.astore_n 2, 1) := by decide +kernel
theorem dX10_giveUp_6 : decode cX10_giveUp 6 = .ok (.aload_n 2, 1) := by decide +kernel
theorem dX10_giveUp_7 : decode cX10_giveUp 7 = .ok (.getfield 106, 3) := by decide +kernel
theorem dX10_giveUp_10 : decode cX10_giveUp 10 = .ok (.ifCond .eq 11, 3) := by decide +kernel
theorem dX10_giveUp_13 : decode cX10_giveUp 13 = .ok (.new 246, 3) := by decide +kernel
theorem dX10_giveUp_16 : decode cX10_giveUp 16 = .ok (.dup, 1) := by decide +kernel
theorem dX10_giveUp_17 : decode cX10_giveUp 17 = .ok (.invokespecial 248, 3) := by decide +kernel
theorem dX10_giveUp_20 : decode cX10_giveUp 20 = .ok (.athrow, 1) := by decide +kernel
theorem dX10_giveUp_21 : decode cX10_giveUp 21 = .ok (.aload_n 0, 1) := by decide +kernel
theorem dX10_giveUp_22 : decode cX10_giveUp 22 = .ok (.getfield 33, 3) := by decide +kernel
theorem dX10_giveUp_25 : decode cX10_giveUp 25 = .ok (.aload_n 0, 1) := by decide +kernel
theorem dX10_giveUp_26 : decode cX10_giveUp 26 = .ok (.getfield 23, 3) := by decide +kernel
theorem dX10_giveUp_29 : decode cX10_giveUp 29 = .ok (.invokevirtual 77, 3) := by decide +kernel
theorem dX10_giveUp_32 : decode cX10_giveUp 32 = .ok (.aload_n 2, 1) := by decide +kernel
theorem dX10_giveUp_33 : decode cX10_giveUp 33 = .ok (.iconst 2, 1) := by decide +kernel
theorem dX10_giveUp_34 : decode cX10_giveUp 34 = .ok (.putfield 106, 3) := by decide +kernel
theorem dX10_giveUp_37 : decode cX10_giveUp 37 = .ok (.aload_n 2, 1) := by decide +kernel
theorem dX10_giveUp_38 : decode cX10_giveUp 38 = .ok (.getfield 109, 3) := by decide +kernel
theorem dX10_giveUp_41 : decode cX10_giveUp 41 = .ok (.ireturn, 1) := by decide +kernel
theorem dX10_reopen_0 : decode cX10_reopen 0 = .ok (.aload_n 0, 1) := by decide +kernel
theorem dX10_reopen_1 : decode cX10_reopen 1 = .ok (.iload_n 1, 1) := by decide +kernel
theorem dX10_reopen_2 : decode cX10_reopen 2 = .ok (.invokevirtual 135, 3) := by decide +kernel
theorem dX10_reopen_5 : decode cX10_reopen 5 = .ok (.astore_n 2, 1) := by decide +kernel
theorem dX10_reopen_6 : decode cX10_reopen 6 = .ok (.aload_n 0, 1) := by decide +kernel
theorem dX10_reopen_7 : decode cX10_reopen 7 = .ok (.getfield 33, 3) := by decide +kernel
theorem dX10_reopen_10 : decode cX10_reopen 10 = .ok (.aload_n 0, 1) := by decide +kernel
theorem dX10_reopen_11 : decode cX10_reopen 11 = .ok (.getfield 23, 3) := by decide +kernel
theorem dX10_reopen_14 : decode cX10_reopen 14 = .ok (.invokevirtual 77, 3) := by decide +kernel
theorem dX10_reopen_17 : decode cX10_reopen 17 = .ok (.aload_n 2, 1) := by decide +kernel
theorem dX10_reopen_18 : decode cX10_reopen 18 = .ok (.getfield 106, 3) := by decide +kernel
theorem dX10_reopen_21 : decode cX10_reopen 21 = .ok (.istore_n 3, 1) := by decide +kernel
theorem dX10_reopen_22 : decode cX10_reopen 22 = .ok (.aload_n 2, 1) := by decide +kernel
theorem dX10_reopen_23 : decode cX10_reopen 23 = .ok (.invokevirtual 260, 3) := by decide +kernel
theorem dX10_reopen_26 : decode cX10_reopen 26 = .ok (.iload_n 3, 1) := by decide +kernel
theorem dX10_reopen_27 : decode cX10_reopen 27 = .ok (.ireturn, 1) := by decide +kernel
theorem dX10_undo_0 : decode cX10_undo 0 = .ok (.aload_n 0, 1) := by decide +kernel
theorem dX10_undo_1 : decode cX10_undo 1 = .ok (.getfield 33, 3) := by decide +kernel
theorem dX10_undo_4 : decode cX10_undo 4 = .ok (.aload_n 0, 1) := by decide +kernel
theorem dX10_undo_5 : decode cX10_undo 5 = .ok (.getfield 23, 3) := by decide +kernel
theorem dX10_undo_8 : decode cX10_undo 8 = .ok (.invokevirtual 263, 3) := by decide +kernel
theorem dX10_undo_11 : decode cX10_undo 11 = .ok (.ifCond .ne 5, 3) := by decide +kernel
theorem dX10_undo_14 : decode cX10_undo 14 = .ok (.iconst (-1), 1) := by decide +kernel
theorem dX10_undo_15 : decode cX10_undo 15 = .ok (.ireturn, 1) := by decide +kernel
theorem dX10_undo_16 : decode cX10_undo 16 = .ok (.aload_n 0, 1) := by decide +kernel
theorem dX10_undo_17 : decode cX10_undo 17 = .ok (.getfield 33, 3) := by decide +kernel
theorem dX10_undo_20 : decode cX10_undo 20 = .ok (.getfield 266, 3) := by decide +kernel
theorem dX10_undo_23 : decode cX10_undo 23 = .ok (.ireturn, 1) := by decide +kernel
theorem dX10_checksum_0 : decode cX10_checksum 0 = .ok (.lconst 0, 1) := by decide +kernel
theorem dX10_checksum_1 : decode cX10_checksum 1 = .ok (.lstore_n 1, 1) := by decide +kernel
theorem dX10_checksum_2 : decode cX10_checksum 2 = .ok (.iconst 0, 1) := by decide +kernel
theorem dX10_checksum_3 : decode cX10_checksum 3 = .ok (.istore_n 3, 1) := by decide +kernel
theorem dX10_checksum_4 : decode cX10_checksum 4 = .ok (.iload_n 3, 1) := by decide +kernel
theorem dX10_checksum_5 : decode cX10_checksum 5 = .ok (.bipush 8, 2) := by decide +kernel
theorem dX10_checksum_7 : decode cX10_checksum 7 = .ok (.if_icmp .gt 22, 3) := by decide +kernel
theorem dX10_checksum_10 : decode cX10_checksum 10 = .ok (.ldc2_w 269, 3) := by decide +kernel
theorem dX10_checksum_13 : decode cX10_checksum 13 = .ok (.lload_n 1, 1) := by decide +kernel
theorem dX10_checksum_14 : decode cX10_checksum 14 = .ok (.lmul, 1) := by decide +kernel
theorem dX10_checksum_15 : decode cX10_checksum 15 = .ok (.aload_n 0, 1) := by decide +kernel
theorem dX10_checksum_16 : decode cX10_checksum 16 = .ok (.iload_n 3, 1) := by decide +kernel
theorem dX10_checksum_17 : decode cX10_checksum 17 = .ok (.invokevirtual 243, 3) := by decide +kernel
theorem dX10_checksum_20 : decode cX10_checksum 20 = .ok (.i2l, 1) := by decide +kernel
theorem dX10_checksum_21 : decode cX10_checksum 21 = .ok (.ladd, 1) := by decide +kernel
theorem dX10_checksum_22 : decode cX10_checksum 22 = .ok (.lstore_n 1, 1) := by decide +kernel
theorem dX10_checksum_23 : decode cX10_checksum 23 = .ok (.iinc 3 1, 3) := by decide +kernel
theorem dX10_checksum_26 : decode cX10_checksum 26 = .ok (.goto (-22), 3) := by decide +kernel
theorem dX10_checksum_29 : decode cX10_checksum 29 = .ok (.iconst 0, 1) := by decide +kernel
theorem dX10_checksum_30 : decode cX10_checksum 30 = .ok (.istore_n 3, 1) := by decide +kernel
theorem dX10_checksum_31 : decode cX10_checksum 31 = .ok (.iload_n 3, 1) := by decide +kernel
theorem dX10_checksum_32 : decode cX10_checksum 32 = .ok (.bipush 8, 2) := by decide +kernel
theorem dX10_checksum_34 : decode cX10_checksum 34 = .ok (.if_icmp .ge 28, 3) := by decide +kernel
theorem dX10_checksum_37 : decode cX10_checksum 37 = .ok (.ldc2_w 269, 3) := by decide +kernel
theorem dX10_checksum_40 : decode cX10_checksum 40 = .ok (.lload_n 1, 1) := by decide +kernel
theorem dX10_checksum_41 : decode cX10_checksum 41 = .ok (.lmul, 1) := by decide +kernel
theorem dX10_checksum_42 : decode cX10_checksum 42 = .ok (.aload_n 0, 1) := by decide +kernel
theorem dX10_checksum_43 : decode cX10_checksum 43 = .ok (.getfield 23, 3) := by decide +kernel
theorem dX10_checksum_46 : decode cX10_checksum 46 = .ok (.getfield 121, 3) := by decide +kernel
theorem dX10_checksum_49 : decode cX10_checksum 49 = .ok (.iload_n 3, 1) := by decide +kernel
theorem dX10_checksum_50 : decode cX10_checksum 50 = .ok (.invokestatic 131, 3) := by decide +kernel
theorem dX10_checksum_53 : decode cX10_checksum 53 = .ok (.i2l, 1) := by decide +kernel
theorem dX10_checksum_54 : decode cX10_checksum 54 = .ok (.ladd, 1) := by decide +kernel
theorem dX10_checksum_55 : decode cX10_checksum 55 = .ok (.lstore_n 1, 1) := by decide +kernel
theorem dX10_checksum_56 : decode cX10_checksum 56 = .ok (.iinc 3 1, 3) := by decide +kernel
theorem dX10_checksum_59 : decode cX10_checksum 59 = .ok (.goto (-28), 3) := by decide +kernel
theorem dX10_checksum_62 : decode cX10_checksum 62 = .ok (.iconst 0, 1) := by decide +kernel
theorem dX10_checksum_63 : decode cX10_checksum 63 = .ok (.istore_n 3, 1) := by decide +kernel
theorem dX10_checksum_64 : decode cX10_checksum 64 = .ok (.iload_n 3, 1) := by decide +kernel
theorem dX10_checksum_65 : decode cX10_checksum 65 = .ok (.aload_n 0, 1) := by decide +kernel
theorem dX10_checksum_66 : decode cX10_checksum 66 = .ok (.getfield 23, 3) := by decide +kernel
theorem dX10_checksum_69 : decode cX10_checksum 69 = .ok (.getfield 84, 3) := by decide +kernel
theorem dX10_checksum_72 : decode cX10_checksum 72 = .ok (.if_icmp .ge 16, 3) := by decide +kernel
theorem dX10_checksum_75 : decode cX10_checksum 75 = .ok (.aload_n 0, 1) := by decide +kernel
theorem dX10_checksum_76 : decode cX10_checksum 76 = .ok (.lload_n 1, 1) := by decide +kernel
theorem dX10_checksum_77 : decode cX10_checksum 77 = .ok (.iload_n 3, 1) := by decide +kernel
theorem dX10_checksum_78 : decode cX10_checksum 78 = .ok (.invokevirtual 271, 3) := by decide +kernel
theorem dX10_checksum_81 : decode cX10_checksum 81 = .ok (.lstore_n 1, 1) := by decide +kernel
theorem dX10_checksum_82 : decode cX10_checksum 82 = .ok (.iinc 3 1, 3) := by decide +kernel
theorem dX10_checksum_85 : decode cX10_checksum 85 = .ok (.goto (-21), 3) := by decide +kernel
theorem dX10_checksum_88 : decode cX10_checksum 88 = .ok (.lload_n 1, 1) := by decide +kernel
theorem dX10_checksum_89 : decode cX10_checksum 89 = .ok (.lreturn, 1) := by decide +kernel
theorem dX10_withQuest_0 : decode cX10_withQuest 0 = .ok (.lload_n 1, 1) := by decide +kernel
theorem dX10_withQuest_1 : decode cX10_withQuest 1 = .ok (.lstore 4, 2) := by decide +kernel
theorem dX10_withQuest_3 : decode cX10_withQuest 3 = .ok (.iconst 0, 1) := by decide +kernel
theorem dX10_withQuest_4 : decode cX10_withQuest 4 = .ok (.istore 6, 2) := by decide +kernel
theorem dX10_withQuest_6 : decode cX10_withQuest 6 = .ok (.iload 6, 2) := by decide +kernel
theorem dX10_withQuest_8 : decode cX10_withQuest 8 = .ok (.bipush 7, 2) := by decide +kernel
theorem dX10_withQuest_10 : decode cX10_withQuest 10 = .ok (.if_icmp .gt 26, 3) := by decide +kernel
theorem dX10_withQuest_13 : decode cX10_withQuest 13 = .ok (.ldc2_w 269, 3) := by decide +kernel
theorem dX10_withQuest_16 : decode cX10_withQuest 16 = .ok (.lload 4, 2) := by decide +kernel
theorem dX10_withQuest_18 : decode cX10_withQuest 18 = .ok (.lmul, 1) := by decide +kernel
theorem dX10_withQuest_19 : decode cX10_withQuest 19 = .ok (.aload_n 0, 1) := by decide +kernel
theorem dX10_withQuest_20 : decode cX10_withQuest 20 = .ok (.iload_n 3, 1) := by decide +kernel
theorem dX10_withQuest_21 : decode cX10_withQuest 21 = .ok (.iload 6, 2) := by decide +kernel
theorem dX10_withQuest_23 : decode cX10_withQuest 23 = .ok (.invokevirtual 275, 3) := by decide +kernel
theorem dX10_withQuest_26 : decode cX10_withQuest 26 = .ok (.i2l, 1) := by decide +kernel
theorem dX10_withQuest_27 : decode cX10_withQuest 27 = .ok (.ladd, 1) := by decide +kernel
theorem dX10_withQuest_28 : decode cX10_withQuest 28 = .ok (.lstore 4, 2) := by decide +kernel
theorem dX10_withQuest_30 : decode cX10_withQuest 30 = .ok (.iinc 6 1, 3) := by decide +kernel
theorem dX10_withQuest_33 : decode cX10_withQuest 33 = .ok (.goto (-27), 3) := by decide +kernel
theorem dX10_withQuest_36 : decode cX10_withQuest 36 = .ok (.ldc2_w 269, 3) := by decide +kernel
theorem dX10_withQuest_39 : decode cX10_withQuest 39 = .ok (.lload 4, 2) := by decide +kernel
theorem dX10_withQuest_41 : decode cX10_withQuest 41 = .ok (.lmul, 1) := by decide +kernel
theorem dX10_withQuest_42 : decode cX10_withQuest 42 = .ok (.aload_n 0, 1) := by decide +kernel
theorem dX10_withQuest_43 : decode cX10_withQuest 43 = .ok (.aload_n 0, 1) := by decide +kernel
theorem dX10_withQuest_44 : decode cX10_withQuest 44 = .ok (.iload_n 3, 1) := by decide +kernel
theorem dX10_withQuest_45 : decode cX10_withQuest 45 = .ok (.invokevirtual 135, 3) := by decide +kernel
theorem dX10_withQuest_48 : decode cX10_withQuest 48 = .ok (.iload_n 3, 1) := by decide +kernel
theorem dX10_withQuest_49 : decode cX10_withQuest 49 = .ok (.invokevirtual 222, 3) := by decide +kernel
theorem dX10_withQuest_52 : decode cX10_withQuest 52 = .ok (.i2l, 1) := by decide +kernel
theorem dX10_withQuest_53 : decode cX10_withQuest 53 = .ok (.ladd, 1) := by decide +kernel
theorem dX10_withQuest_54 : decode cX10_withQuest 54 = .ok (.lstore 4, 2) := by decide +kernel
theorem dX10_withQuest_56 : decode cX10_withQuest 56 = .ok (.aload_n 0, 1) := by decide +kernel
theorem dX10_withQuest_57 : decode cX10_withQuest 57 = .ok (.iload_n 3, 1) := by decide +kernel
theorem dX10_withQuest_58 : decode cX10_withQuest 58 = .ok (.iconst 0, 1) := by decide +kernel
theorem dX10_withQuest_59 : decode cX10_withQuest 59 = .ok (.invokevirtual 275, 3) := by decide +kernel
theorem dX10_withQuest_62 : decode cX10_withQuest 62 = .ok (.istore 6, 2) := by decide +kernel
theorem dX10_withQuest_64 : decode cX10_withQuest 64 = .ok (.iconst 0, 1) := by decide +kernel
theorem dX10_withQuest_65 : decode cX10_withQuest 65 = .ok (.istore 7, 2) := by decide +kernel
theorem dX10_withQuest_67 : decode cX10_withQuest 67 = .ok (.iload 7, 2) := by decide +kernel
theorem dX10_withQuest_69 : decode cX10_withQuest 69 = .ok (.iload 6, 2) := by decide +kernel
theorem dX10_withQuest_71 : decode cX10_withQuest 71 = .ok (.if_icmp .ge 43, 3) := by decide +kernel
theorem dX10_withQuest_74 : decode cX10_withQuest 74 = .ok (.iconst 0, 1) := by decide +kernel
theorem dX10_withQuest_75 : decode cX10_withQuest 75 = .ok (.istore 8, 2) := by decide +kernel
theorem dX10_withQuest_77 : decode cX10_withQuest 77 = .ok (.iload 8, 2) := by decide +kernel
theorem dX10_withQuest_79 : decode cX10_withQuest 79 = .ok (.iconst 5, 1) := by decide +kernel
theorem dX10_withQuest_80 : decode cX10_withQuest 80 = .ok (.if_icmp .gt 28, 3) := by decide +kernel
theorem dX10_withQuest_83 : decode cX10_withQuest 83 = .ok (.ldc2_w 269, 3) := by decide +kernel
theorem dX10_withQuest_86 : decode cX10_withQuest 86 = .ok (.lload 4, 2) := by decide +kernel
theorem dX10_withQuest_88 : decode cX10_withQuest 88 = .ok (.lmul, 1) := by decide +kernel
theorem dX10_withQuest_89 : decode cX10_withQuest 89 = .ok (.aload_n 0, 1) := by decide +kernel
theorem dX10_withQuest_90 : decode cX10_withQuest 90 = .ok (.iload_n 3, 1) := by decide +kernel
theorem dX10_withQuest_91 : decode cX10_withQuest 91 = .ok (.iload 7, 2) := by decide +kernel
theorem dX10_withQuest_93 : decode cX10_withQuest 93 = .ok (.iload 8, 2) := by decide +kernel
theorem dX10_withQuest_95 : decode cX10_withQuest 95 = .ok (.invokevirtual 279, 3) := by decide +kernel
theorem dX10_withQuest_98 : decode cX10_withQuest 98 = .ok (.i2l, 1) := by decide +kernel
theorem dX10_withQuest_99 : decode cX10_withQuest 99 = .ok (.ladd, 1) := by decide +kernel
theorem dX10_withQuest_100 : decode cX10_withQuest 100 = .ok (.lstore 4, 2) := by decide +kernel
theorem dX10_withQuest_102 : decode cX10_withQuest 102 = .ok (.iinc 8 1, 3) := by decide +kernel
theorem dX10_withQuest_105 : decode cX10_withQuest 105 = .ok (.goto (-28), 3) := by decide +kernel
theorem dX10_withQuest_108 : decode cX10_withQuest 108 = .ok (.iinc 7 1, 3) := by decide +kernel
theorem dX10_withQuest_111 : decode cX10_withQuest 111 = .ok (.goto (-44), 3) := by decide +kernel
theorem dX10_withQuest_114 : decode cX10_withQuest 114 = .ok (.lload 4, 2) := by decide +kernel
theorem dX10_withQuest_116 : decode cX10_withQuest 116 = .ok (.lreturn, 1) := by decide +kernel
theorem dX10_questAt_0 : decode cX10_questAt 0 = .ok (.iload_n 1, 1) := by decide +kernel
theorem dX10_questAt_1 : decode cX10_questAt 1 = .ok (.ifCond .lt 20, 3) := by decide +kernel
theorem dX10_questAt_4 : decode cX10_questAt 4 = .ok (.iload_n 1, 1) := by decide +kernel
theorem dX10_questAt_5 : decode cX10_questAt 5 = .ok (.aload_n 0, 1) := by decide +kernel
theorem dX10_questAt_6 : decode cX10_questAt 6 = .ok (.getfield 23, 3) := by decide +kernel
theorem dX10_questAt_9 : decode cX10_questAt 9 = .ok (.getfield 84, 3) := by decide +kernel
theorem dX10_questAt_12 : decode cX10_questAt 12 = .ok (.if_icmp .ge 9, 3) := by decide +kernel
theorem dX10_questAt_15 : decode cX10_questAt 15 = .ok (.iload_n 1, 1) := by decide +kernel
theorem dX10_questAt_16 : decode cX10_questAt 16 = .ok (.bipush 6, 2) := by decide +kernel
theorem dX10_questAt_18 : decode cX10_questAt 18 = .ok (.if_icmp .lt 11, 3) := by decide +kernel
theorem dX10_questAt_21 : decode cX10_questAt 21 = .ok (.new 283, 3) := by decide +kernel
theorem dX10_questAt_24 : decode cX10_questAt 24 = .ok (.dup, 1) := by decide +kernel
theorem dX10_questAt_25 : decode cX10_questAt 25 = .ok (.invokespecial 285, 3) := by decide +kernel
theorem dX10_questAt_28 : decode cX10_questAt 28 = .ok (.athrow, 1) := by decide +kernel
theorem dX10_questAt_29 : decode cX10_questAt 29 = .ok (.aload_n 0, 1) := by decide +kernel
theorem dX10_questAt_30 : decode cX10_questAt 30 = .ok (.getfield 23, 3) := by decide +kernel
theorem dX10_questAt_33 : decode cX10_questAt 33 = .ok (.getfield 93, 3) := by decide +kernel
theorem dX10_questAt_36 : decode cX10_questAt 36 = .ok (.iload_n 1, 1) := by decide +kernel
theorem dX10_questAt_37 : decode cX10_questAt 37 = .ok (.aaload, 1) := by decide +kernel
theorem dX10_questAt_38 : decode cX10_questAt 38 = .ok (.areturn, 1) := by decide +kernel
theorem dX10_questWithStep_0 : decode cX10_questWithStep 0 = .ok (.aload_n 0, 1) := by decide +kernel
theorem dX10_questWithStep_1 : decode cX10_questWithStep 1 = .ok (.iload_n 1, 1) := by decide +kernel
theorem dX10_questWithStep_2 : decode cX10_questWithStep 2 = .ok (.invokevirtual 135, 3) := by decide +kernel
theorem dX10_questWithStep_5 : decode cX10_questWithStep 5 = .ok (.astore_n 3, 1) := by decide +kernel
theorem dX10_questWithStep_6 : decode cX10_questWithStep 6 = .ok (.iload_n 2, 1) := by decide +kernel
theorem dX10_questWithStep_7 : decode cX10_questWithStep 7 = .ok (.ifCond .lt 11, 3) := by decide +kernel
theorem dX10_questWithStep_10 : decode cX10_questWithStep 10 = .ok (.iload_n 2, 1) := by decide +kernel
theorem dX10_questWithStep_11 : decode cX10_questWithStep 11 = .ok (.aload_n 3, 1) := by decide +kernel
theorem dX10_questWithStep_12 : decode cX10_questWithStep 12 = .ok (.getfield 101, 3) := by decide +kernel
theorem dX10_questWithStep_15 : decode cX10_questWithStep 15 = .ok (.if_icmp .lt 11, 3) := by decide +kernel
theorem dX10_questWithStep_18 : decode cX10_questWithStep 18 = .ok (.new 283, 3) := by decide +kernel
theorem dX10_questWithStep_21 : decode cX10_questWithStep 21 = .ok (.dup, 1) := by decide +kernel
theorem dX10_questWithStep_22 : decode cX10_questWithStep 22 = .ok (.invokespecial 285, 3) := by decide +kernel
theorem dX10_questWithStep_25 : decode cX10_questWithStep 25 = .ok (.athrow, 1) := by decide +kernel
theorem dX10_questWithStep_26 : decode cX10_questWithStep 26 = .ok (.aload_n 3, 1) := by decide +kernel
theorem dX10_questWithStep_27 : decode cX10_questWithStep 27 = .ok (.areturn, 1) := by decide +kernel
theorem dX10_checkItem_0 : decode cX10_checkItem 0 = .ok (.iload_n 0, 1) := by decide +kernel
theorem dX10_checkItem_1 : decode cX10_checkItem 1 = .ok (.ifCond .lt 9, 3) := by decide +kernel
theorem dX10_checkItem_4 : decode cX10_checkItem 4 = .ok (.iload_n 0, 1) := by decide +kernel
theorem dX10_checkItem_5 : decode cX10_checkItem 5 = .ok (.bipush 8, 2) := by decide +kernel
theorem dX10_checkItem_7 : decode cX10_checkItem 7 = .ok (.if_icmp .lt 11, 3) := by decide +kernel
theorem dX10_checkItem_10 : decode cX10_checkItem 10 = .ok (.new 283, 3) := by decide +kernel
theorem dX10_checkItem_13 : decode cX10_checkItem 13 = .ok (.dup, 1) := by decide +kernel
theorem dX10_checkItem_14 : decode cX10_checkItem 14 = .ok (.invokespecial 285, 3) := by decide +kernel
theorem dX10_checkItem_17 : decode cX10_checkItem 17 = .ok (.athrow, 1) := by decide +kernel
theorem dX10_checkItem_18 : decode cX10_checkItem 18 = .ok (.return_, 1) := by decide +kernel
theorem dX10_checkChange_0 : decode cX10_checkChange 0 = .ok (.iload_n 0, 1) := by decide +kernel
theorem dX10_checkChange_1 : decode cX10_checkChange 1 = .ok (.iconst 1, 1) := by decide +kernel
theorem dX10_checkChange_2 : decode cX10_checkChange 2 = .ok (.if_icmp .lt 10, 3) := by decide +kernel
theorem dX10_checkChange_5 : decode cX10_checkChange 5 = .ok (.iload_n 0, 1) := by decide +kernel
theorem dX10_checkChange_6 : decode cX10_checkChange 6 = .ok (.sipush 999, 3) := by decide +kernel
theorem dX10_checkChange_9 : decode cX10_checkChange 9 = .ok (.if_icmp .le 11, 3) := by decide +kernel
theorem dX10_checkChange_12 : decode cX10_checkChange 12 = .ok (.new 66, 3) := by decide +kernel
theorem dX10_checkChange_15 : decode cX10_checkChange 15 = .ok (.dup, 1) := by decide +kernel
theorem dX10_checkChange_16 : decode cX10_checkChange 16 = .ok (.invokespecial 68, 3) := by decide +kernel
theorem dX10_checkChange_19 : decode cX10_checkChange 19 = .ok (.athrow, 1) := by decide +kernel
theorem dX10_checkChange_20 : decode cX10_checkChange 20 = .ok (.return_, 1) := by decide +kernel
theorem dX10_at_0 : decode cX10_at 0 = .ok (.iload_n 1, 1) := by decide +kernel
theorem dX10_at_1 : decode cX10_at 1 = .ok (.ifCond .lt 15, 3) := by decide +kernel
theorem dX10_at_4 : decode cX10_at 4 = .ok (.iload_n 1, 1) := by decide +kernel
theorem dX10_at_5 : decode cX10_at 5 = .ok (.aload_n 0, 1) := by decide +kernel
theorem dX10_at_6 : decode cX10_at 6 = .ok (.arraylength, 1) := by decide +kernel
theorem dX10_at_7 : decode cX10_at 7 = .ok (.if_icmp .ge 9, 3) := by decide +kernel
theorem dX10_at_10 : decode cX10_at 10 = .ok (.aload_n 0, 1) := by decide +kernel
theorem dX10_at_11 : decode cX10_at 11 = .ok (.iload_n 1, 1) := by decide +kernel
theorem dX10_at_12 : decode cX10_at 12 = .ok (.iaload, 1) := by decide +kernel
theorem dX10_at_13 : decode cX10_at 13 = .ok (.goto 4, 3) := by decide +kernel
theorem dX10_at_16 : decode cX10_at 16 = .ok (.iconst 0, 1) := by decide +kernel
theorem dX10_at_17 : decode cX10_at 17 = .ok (.ireturn, 1) := by decide +kernel
theorem dX10_put_0 : decode cX10_put 0 = .ok (.iload_n 1, 1) := by decide +kernel
theorem dX10_put_1 : decode cX10_put 1 = .ok (.ifCond .lt 13, 3) := by decide +kernel
theorem dX10_put_4 : decode cX10_put 4 = .ok (.iload_n 1, 1) := by decide +kernel
theorem dX10_put_5 : decode cX10_put 5 = .ok (.aload_n 0, 1) := by decide +kernel
theorem dX10_put_6 : decode cX10_put 6 = .ok (.arraylength, 1) := by decide +kernel
theorem dX10_put_7 : decode cX10_put 7 = .ok (.if_icmp .ge 7, 3) := by decide +kernel
theorem dX10_put_10 : decode cX10_put 10 = .ok (.aload_n 0, 1) := by decide +kernel
theorem dX10_put_11 : decode cX10_put 11 = .ok (.iload_n 1, 1) := by decide +kernel
theorem dX10_put_12 : decode cX10_put 12 = .ok (.iload_n 2, 1) := by decide +kernel
theorem dX10_put_13 : decode cX10_put 13 = .ok (.iastore, 1) := by decide +kernel
theorem dX10_put_14 : decode cX10_put 14 = .ok (.return_, 1) := by decide +kernel
theorem dX11_init_0 : decode cX11_init 0 = .ok (.aload_n 0, 1) := by decide +kernel
theorem dX11_init_1 : decode cX11_init 1 = .ok (.invokespecial 1, 3) := by decide +kernel
theorem dX11_init_4 : decode cX11_init 4 = .ok (.aload_n 0, 1) := by decide +kernel
theorem dX11_init_5 : decode cX11_init 5 = .ok (.ldc 7, 2) := by decide +kernel
theorem dX11_init_7 : decode cX11_init 7 = .ok (.newarray .int, 2) := by decide +kernel
theorem dX11_init_9 : decode cX11_init 9 = .ok (.putfield 8, 3) := by decide +kernel
theorem dX11_init_12 : decode cX11_init 12 = .ok (.aload_n 0, 1) := by decide +kernel
theorem dX11_init_13 : decode cX11_init 13 = .ok (.sipush 4370, 3) := by decide +kernel
theorem dX11_init_16 : decode cX11_init 16 = .ok (.newarray .int, 2) := by decide +kernel
theorem dX11_init_18 : decode cX11_init 18 = .ok (.putfield 14, 3) := by decide +kernel
theorem dX11_init_21 : decode cX11_init 21 = .ok (.aload_n 0, 1) := by decide +kernel
theorem dX11_init_22 : decode cX11_init 22 = .ok (.sipush 801, 3) := by decide +kernel
theorem dX11_init_25 : decode cX11_init 25 = .ok (.newarray .int, 2) := by decide +kernel
theorem dX11_init_27 : decode cX11_init 27 = .ok (.putfield 17, 3) := by decide +kernel
theorem dX11_init_30 : decode cX11_init 30 = .ok (.aload_n 0, 1) := by decide +kernel
theorem dX11_init_31 : decode cX11_init 31 = .ok (.bipush 8, 2) := by decide +kernel
theorem dX11_init_33 : decode cX11_init 33 = .ok (.newarray .int, 2) := by decide +kernel
theorem dX11_init_35 : decode cX11_init 35 = .ok (.putfield 20, 3) := by decide +kernel
theorem dX11_init_38 : decode cX11_init 38 = .ok (.aload_n 0, 1) := by decide +kernel
theorem dX11_init_39 : decode cX11_init 39 = .ok (.bipush 64, 2) := by decide +kernel
theorem dX11_init_41 : decode cX11_init 41 = .ok (.newarray .int, 2) := by decide +kernel
theorem dX11_init_43 : decode cX11_init 43 = .ok (.putfield 23, 3) := by decide +kernel
theorem dX11_init_46 : decode cX11_init 46 = .ok (.aload_n 0, 1) := by decide +kernel
theorem dX11_init_47 : decode cX11_init 47 = .ok (.bipush 64, 2) := by decide +kernel
theorem dX11_init_49 : decode cX11_init 49 = .ok (.newarray .int, 2) := by decide +kernel
theorem dX11_init_51 : decode cX11_init 51 = .ok (.putfield 26, 3) := by decide +kernel
theorem dX11_init_54 : decode cX11_init 54 = .ok (.aload_n 0, 1) := by decide +kernel
theorem dX11_init_55 : decode cX11_init 55 = .ok (.bipush 6, 2) := by decide +kernel
theorem dX11_init_57 : decode cX11_init 57 = .ok (.newarray .int, 2) := by decide +kernel
theorem dX11_init_59 : decode cX11_init 59 = .ok (.putfield 29, 3) := by decide +kernel
theorem dX11_init_62 : decode cX11_init 62 = .ok (.aload_n 0, 1) := by decide +kernel
theorem dX11_init_63 : decode cX11_init 63 = .ok (.sipush 801, 3) := by decide +kernel
theorem dX11_init_66 : decode cX11_init 66 = .ok (.newarray .long, 2) := by decide +kernel
theorem dX11_init_68 : decode cX11_init 68 = .ok (.putfield 32, 3) := by decide +kernel
theorem dX11_init_71 : decode cX11_init 71 = .ok (.aload_n 0, 1) := by decide +kernel
theorem dX11_init_72 : decode cX11_init 72 = .ok (.sipush 800, 3) := by decide +kernel
theorem dX11_init_75 : decode cX11_init 75 = .ok (.newarray .int, 2) := by decide +kernel
theorem dX11_init_77 : decode cX11_init 77 = .ok (.putfield 36, 3) := by decide +kernel
theorem dX11_init_80 : decode cX11_init 80 = .ok (.aload_n 0, 1) := by decide +kernel
theorem dX11_init_81 : decode cX11_init 81 = .ok (.iconst (-1), 1) := by decide +kernel
theorem dX11_init_82 : decode cX11_init 82 = .ok (.putfield 39, 3) := by decide +kernel
theorem dX11_init_85 : decode cX11_init 85 = .ok (.aload_n 0, 1) := by decide +kernel
theorem dX11_init_86 : decode cX11_init 86 = .ok (.bipush 64, 2) := by decide +kernel
theorem dX11_init_88 : decode cX11_init 88 = .ok (.newarray .boolean, 2) := by decide +kernel
theorem dX11_init_90 : decode cX11_init 90 = .ok (.putfield 43, 3) := by decide +kernel
theorem dX11_init_93 : decode cX11_init 93 = .ok (.return_, 1) := by decide +kernel
theorem dX11_thrown_0 : decode cX11_thrown 0 = .ok (.aload_n 0, 1) := by decide +kernel
theorem dX11_thrown_1 : decode cX11_thrown 1 = .ok (.getfield 47, 3) := by decide +kernel
theorem dX11_thrown_4 : decode cX11_thrown 4 = .ok (.ireturn, 1) := by decide +kernel
theorem dX11_isIn_0 : decode cX11_isIn 0 = .ok (.iload_n 0, 1) := by decide +kernel
theorem dX11_isIn_1 : decode cX11_isIn 1 = .ok (.iload_n 1, 1) := by decide +kernel
theorem dX11_isIn_2 : decode cX11_isIn 2 = .ok (.if_icmp .lt 12, 3) := by decide +kernel
theorem dX11_isIn_5 : decode cX11_isIn 5 = .ok (.iload_n 0, 1) := by decide +kernel
theorem dX11_isIn_6 : decode cX11_isIn 6 = .ok (.iload_n 2, 1) := by decide +kernel
theorem dX11_isIn_7 : decode cX11_isIn 7 = .ok (.if_icmp .gt 7, 3) := by decide +kernel
theorem dX11_isIn_10 : decode cX11_isIn 10 = .ok (.iconst 1, 1) := by decide +kernel
theorem dX11_isIn_11 : decode cX11_isIn 11 = .ok (.goto 4, 3) := by decide +kernel
theorem dX11_isIn_14 : decode cX11_isIn 14 = .ok (.iconst 0, 1) := by decide +kernel
theorem dX11_isIn_15 : decode cX11_isIn 15 = .ok (.ireturn, 1) := by decide +kernel
theorem dX11_get_0 : decode cX11_get 0 = .ok (.aload_n 0, 1) := by decide +kernel
theorem dX11_get_1 : decode cX11_get 1 = .ok (.getfield 8, 3) := by decide +kernel
theorem dX11_get_4 : decode cX11_get 4 = .ok (.sipush 4370, 3) := by decide +kernel
theorem dX11_get_7 : decode cX11_get 7 = .ok (.aload_n 0, 1) := by decide +kernel
theorem dX11_get_8 : decode cX11_get 8 = .ok (.getfield 50, 3) := by decide +kernel
theorem dX11_get_11 : decode cX11_get 11 = .ok (.imul, 1) := by decide +kernel
theorem dX11_get_12 : decode cX11_get 12 = .ok (.iload_n 1, 1) := by decide +kernel
theorem dX11_get_13 : decode cX11_get 13 = .ok (.iadd, 1) := by decide +kernel
theorem dX11_get_14 : decode cX11_get 14 = .ok (.iaload, 1) := by decide +kernel
theorem dX11_get_15 : decode cX11_get 15 = .ok (.ireturn, 1) := by decide +kernel
theorem dX11_put_0 : decode cX11_put 0 = .ok (.aload_n 0, 1) := by decide +kernel
theorem dX11_put_1 : decode cX11_put 1 = .ok (.getfield 8, 3) := by decide +kernel
theorem dX11_put_4 : decode cX11_put 4 = .ok (.sipush 4370, 3) := by decide +kernel
theorem dX11_put_7 : decode cX11_put 7 = .ok (.aload_n 0, 1) := by decide +kernel
theorem dX11_put_8 : decode cX11_put 8 = .ok (.getfield 50, 3) := by decide +kernel
theorem dX11_put_11 : decode cX11_put 11 = .ok (.imul, 1) := by decide +kernel
theorem dX11_put_12 : decode cX11_put 12 = .ok (.iload_n 1, 1) := by decide +kernel
theorem dX11_put_13 : decode cX11_put 13 = .ok (.iadd, 1) := by decide +kernel
theorem dX11_put_14 : decode cX11_put 14 = .ok (.iload_n 2, 1) := by decide +kernel
theorem dX11_put_15 : decode cX11_put 15 = .ok (.iastore, 1) := by decide +kernel
theorem dX11_put_16 : decode cX11_put 16 = .ok (.return_, 1) := by decide +kernel
theorem dX11_change_0 : decode cX11_change 0 = .ok (.aload_n 0, 1) := by decide +kernel
theorem dX11_change_1 : decode cX11_change 1 = .ok (.getfield 50, 3) := by decide +kernel
theorem dX11_change_4 : decode cX11_change 4 = .ok (.iconst 1, 1) := by decide +kernel
theorem dX11_change_5 : decode cX11_change 5 = .ok (.iadd, 1) := by decide +kernel
theorem dX11_change_6 : decode cX11_change 6 = .ok (.bipush 9, 2) := by decide +kernel
theorem dX11_change_8 : decode cX11_change 8 = .ok (.irem, 1) := by decide +kernel
theorem dX11_change_9 : decode cX11_change 9 = .ok (.istore_n 1, 1) := by decide +kernel
theorem dX11_change_10 : decode cX11_change 10 = .ok (.iconst 0, 1) := by decide +kernel
theorem dX11_change_11 : decode cX11_change 11 = .ok (.istore_n 2, 1) := by decide +kernel
theorem dX11_change_12 : decode cX11_change 12 = .ok (.iload_n 2, 1) := by decide +kernel
theorem dX11_change_13 : decode cX11_change 13 = .ok (.sipush 4370, 3) := by decide +kernel
theorem dX11_change_16 : decode cX11_change 16 = .ok (.if_icmp .ge 26, 3) := by decide +kernel
theorem dX11_change_19 : decode cX11_change 19 = .ok (.aload_n 0, 1) := by decide +kernel
theorem dX11_change_20 : decode cX11_change 20 = .ok (.getfield 8, 3) := by decide +kernel
theorem dX11_change_23 : decode cX11_change 23 = .ok (.sipush 4370, 3) := by decide +kernel
theorem dX11_change_26 : decode cX11_change 26 = .ok (.iload_n 1, 1) := by decide +kernel
theorem dX11_change_27 : decode cX11_change 27 = .ok (.imul, 1) := by decide +kernel
theorem dX11_change_28 : decode cX11_change 28 = .ok (.iload_n 2, 1) := by decide +kernel
theorem dX11_change_29 : decode cX11_change 29 = .ok (.iadd, 1) := by decide +kernel
theorem dX11_change_30 : decode cX11_change 30 = .ok (.aload_n 0, 1) := by decide +kernel
theorem dX11_change_31 : decode cX11_change 31 = .ok (.iload_n 2, 1) := by decide +kernel
theorem dX11_change_32 : decode cX11_change 32 = .ok (.invokevirtual 53, 3) := by decide +kernel
theorem dX11_change_35 : decode cX11_change 35 = .ok (.iastore, 1) := by decide +kernel
theorem dX11_change_36 : decode cX11_change 36 = .ok (.iinc 2 1, 3) := by decide +kernel
theorem dX11_change_39 : decode cX11_change 39 = .ok (.goto (-27), 3) := by decide +kernel
theorem dX11_change_42 : decode cX11_change 42 = .ok (.aload_n 0, 1) := by decide +kernel
theorem dX11_change_43 : decode cX11_change 43 = .ok (.iload_n 1, 1) := by decide +kernel
theorem dX11_change_44 : decode cX11_change 44 = .ok (.putfield 50, 3) := by decide +kernel
theorem dX11_change_47 : decode cX11_change 47 = .ok (.aload_n 0, 1) := by decide +kernel
theorem dX11_change_48 : decode cX11_change 48 = .ok (.aload_n 0, 1) := by decide +kernel
theorem dX11_change_49 : decode cX11_change 49 = .ok (.getfield 57, 3) := by decide +kernel
theorem dX11_change_52 : decode cX11_change 52 = .ok (.bipush 8, 2) := by decide +kernel
theorem dX11_change_54 : decode cX11_change 54 = .ok (.if_icmp .ge 12, 3) := by decide +kernel
theorem dX11_change_57 : decode cX11_change 57 = .ok (.aload_n 0, 1) := by decide +kernel
theorem dX11_change_58 : decode cX11_change 58 = .ok (.getfield 57, 3) := by decide +kernel
theorem dX11_change_61 : decode cX11_change 61 = .ok (.iconst 1, 1) := by decide +kernel
theorem dX11_change_62 : decode cX11_change 62 = .ok (.iadd, 1) := by decide +kernel
theorem dX11_change_63 : decode cX11_change 63 = .ok (.goto 7, 3) := by decide +kernel
theorem dX11_change_66 : decode cX11_change 66 = .ok (.aload_n 0, 1) := by decide +kernel
theorem dX11_change_67 : decode cX11_change 67 = .ok (.getfield 57, 3) := by decide +kernel
theorem dX11_change_70 : decode cX11_change 70 = .ok (.putfield 57, 3) := by decide +kernel
theorem dX11_change_73 : decode cX11_change 73 = .ok (.return_, 1) := by decide +kernel
theorem dX11_right_0 : decode cX11_right 0 = .ok (.aload_n 0, 1) := by decide +kernel
theorem dX11_right_1 : decode cX11_right 1 = .ok (.getfield 47, 3) := by decide +kernel
theorem dX11_right_4 : decode cX11_right 4 = .ok (.ifCond .ne 12, 3) := by decide +kernel
theorem dX11_right_7 : decode cX11_right 7 = .ok (.iload_n 1, 1) := by decide +kernel
theorem dX11_right_8 : decode cX11_right 8 = .ok (.ifCond .ne 8, 3) := by decide +kernel
theorem dX11_right_11 : decode cX11_right 11 = .ok (.aload_n 0, 1) := by decide +kernel
theorem dX11_right_12 : decode cX11_right 12 = .ok (.iload_n 2, 1) := by decide +kernel
theorem dX11_right_13 : decode cX11_right 13 = .ok (.putfield 47, 3) := by decide +kernel
theorem dX11_right_16 : decode cX11_right 16 = .ok (.aload_n 0, 1) := by decide +kernel
theorem dX11_right_17 : decode cX11_right 17 = .ok (.getfield 47, 3) := by decide +kernel
theorem dX11_right_20 : decode cX11_right 20 = .ok (.ifCond .ne 7, 3) := by decide +kernel
theorem dX11_right_23 : decode cX11_right 23 = .ok (.iconst 1, 1) := by decide +kernel
theorem dX11_right_24 : decode cX11_right 24 = .ok (.goto 4, 3) := by decide +kernel
theorem dX11_right_27 : decode cX11_right 27 = .ok (.iconst 0, 1) := by decide +kernel
theorem dX11_right_28 : decode cX11_right 28 = .ok (.ireturn, 1) := by decide +kernel
theorem dX11_ofQuest_0 : decode cX11_ofQuest 0 = .ok (.aload_n 0, 1) := by decide +kernel
theorem dX11_ofQuest_1 : decode cX11_ofQuest 1 = .ok (.bipush 53, 2) := by decide +kernel
theorem dX11_ofQuest_3 : decode cX11_ofQuest 3 = .ok (.sipush 186, 3) := by decide +kernel
theorem dX11_ofQuest_6 : decode cX11_ofQuest 6 = .ok (.iload_n 1, 1) := by decide +kernel
theorem dX11_ofQuest_7 : decode cX11_ofQuest 7 = .ok (.imul, 1) := by decide +kernel
theorem dX11_ofQuest_8 : decode cX11_ofQuest 8 = .ok (.iadd, 1) := by decide +kernel
theorem dX11_ofQuest_9 : decode cX11_ofQuest 9 = .ok (.iload_n 2, 1) := by decide +kernel
theorem dX11_ofQuest_10 : decode cX11_ofQuest 10 = .ok (.iadd, 1) := by decide +kernel
theorem dX11_ofQuest_11 : decode cX11_ofQuest 11 = .ok (.invokevirtual 53, 3) := by decide +kernel
theorem dX11_ofQuest_14 : decode cX11_ofQuest 14 = .ok (.ireturn, 1) := by decide +kernel
theorem dX11_putQuest_0 : decode cX11_putQuest 0 = .ok (.aload_n 0, 1) := by decide +kernel
theorem dX11_putQuest_1 : decode cX11_putQuest 1 = .ok (.bipush 53, 2) := by decide +kernel
theorem dX11_putQuest_3 : decode cX11_putQuest 3 = .ok (.sipush 186, 3) := by decide +kernel
theorem dX11_putQuest_6 : decode cX11_putQuest 6 = .ok (.iload_n 1, 1) := by decide +kernel
theorem dX11_putQuest_7 : decode cX11_putQuest 7 = .ok (.imul, 1) := by decide +kernel
theorem dX11_putQuest_8 : decode cX11_putQuest 8 = .ok (.iadd, 1) := by decide +kernel
theorem dX11_putQuest_9 : decode cX11_putQuest 9 = .ok (.iload_n 2, 1) := by decide +kernel
theorem dX11_putQuest_10 : decode cX11_putQuest 10 = .ok (.iadd, 1) := by decide +kernel
theorem dX11_putQuest_11 : decode cX11_putQuest 11 = .ok (.iload_n 3, 1) := by decide +kernel
theorem dX11_putQuest_12 : decode cX11_putQuest 12 = .ok (.invokevirtual 60, 3) := by decide +kernel
theorem dX11_putQuest_15 : decode cX11_putQuest 15 = .ok (.return_, 1) := by decide +kernel
theorem dX11_placeOf_0 : decode cX11_placeOf 0 = .ok (.bipush 53, 2) := by decide +kernel
theorem dX11_placeOf_2 : decode cX11_placeOf 2 = .ok (.sipush 186, 3) := by decide +kernel
theorem dX11_placeOf_5 : decode cX11_placeOf 5 = .ok (.iload_n 0, 1) := by decide +kernel
theorem dX11_placeOf_6 : decode cX11_placeOf 6 = .ok (.imul, 1) := by decide +kernel
theorem dX11_placeOf_7 : decode cX11_placeOf 7 = .ok (.iadd, 1) := by decide +kernel
theorem dX11_placeOf_8 : decode cX11_placeOf 8 = .ok (.bipush 6, 2) := by decide +kernel
theorem dX11_placeOf_10 : decode cX11_placeOf 10 = .ok (.iadd, 1) := by decide +kernel
theorem dX11_placeOf_11 : decode cX11_placeOf 11 = .ok (.bipush 30, 2) := by decide +kernel
theorem dX11_placeOf_13 : decode cX11_placeOf 13 = .ok (.iload_n 1, 1) := by decide +kernel
theorem dX11_placeOf_14 : decode cX11_placeOf 14 = .ok (.imul, 1) := by decide +kernel
theorem dX11_placeOf_15 : decode cX11_placeOf 15 = .ok (.iadd, 1) := by decide +kernel
theorem dX11_placeOf_16 : decode cX11_placeOf 16 = .ok (.ireturn, 1) := by decide +kernel
theorem dX11_ofStep_0 : decode cX11_ofStep 0 = .ok (.aload_n 0, 1) := by decide +kernel
theorem dX11_ofStep_1 : decode cX11_ofStep 1 = .ok (.iload_n 1, 1) := by decide +kernel
theorem dX11_ofStep_2 : decode cX11_ofStep 2 = .ok (.iload_n 2, 1) := by decide +kernel
theorem dX11_ofStep_3 : decode cX11_ofStep 3 = .ok (.invokestatic 64, 3) := by decide +kernel
theorem dX11_ofStep_6 : decode cX11_ofStep 6 = .ok (.iload_n 3, 1) := by decide +kernel
theorem dX11_ofStep_7 : decode cX11_ofStep 7 = .ok (.iadd, 1) := by decide +kernel
theorem dX11_ofStep_8 : decode cX11_ofStep 8 = .ok (.invokevirtual 53, 3) := by decide +kernel
theorem dX11_ofStep_11 : decode cX11_ofStep 11 = .ok (.ireturn, 1) := by decide +kernel
theorem dX11_putStep_0 : decode cX11_putStep 0 = .ok (.aload_n 0, 1) := by decide +kernel
theorem dX11_putStep_1 : decode cX11_putStep 1 = .ok (.iload_n 1, 1) := by decide +kernel
theorem dX11_putStep_2 : decode cX11_putStep 2 = .ok (.iload_n 2, 1) := by decide +kernel
theorem dX11_putStep_3 : decode cX11_putStep 3 = .ok (.invokestatic 64, 3) := by decide +kernel
theorem dX11_putStep_6 : decode cX11_putStep 6 = .ok (.iload_n 3, 1) := by decide +kernel
theorem dX11_putStep_7 : decode cX11_putStep 7 = .ok (.iadd, 1) := by decide +kernel
theorem dX11_putStep_8 : decode cX11_putStep 8 = .ok (.iload 4, 2) := by decide +kernel
theorem dX11_putStep_10 : decode cX11_putStep 10 = .ok (.invokevirtual 60, 3) := by decide +kernel
theorem dX11_putStep_13 : decode cX11_putStep 13 = .ok (.return_, 1) := by decide +kernel
theorem dX11_stepsOf_0 : decode cX11_stepsOf 0 = .ok (.aload_n 0, 1) := by decide +kernel
theorem dX11_stepsOf_1 : decode cX11_stepsOf 1 = .ok (.iload_n 1, 1) := by decide +kernel
theorem dX11_stepsOf_2 : decode cX11_stepsOf 2 = .ok (.iconst 0, 1) := by decide +kernel
theorem dX11_stepsOf_3 : decode cX11_stepsOf 3 = .ok (.invokevirtual 68, 3) := by decide +kernel
theorem dX11_stepsOf_6 : decode cX11_stepsOf 6 = .ok (.ireturn, 1) := by decide +kernel
theorem dX11_isBroken_0 : decode cX11_isBroken 0 = .ok (.aload_n 0, 1) := by decide +kernel
theorem dX11_isBroken_1 : decode cX11_isBroken 1 = .ok (.iload_n 1, 1) := by decide +kernel
theorem dX11_isBroken_2 : decode cX11_isBroken 2 = .ok (.iload_n 2, 1) := by decide +kernel
theorem dX11_isBroken_3 : decode cX11_isBroken 3 = .ok (.iconst 2, 1) := by decide +kernel
theorem dX11_isBroken_4 : decode cX11_isBroken 4 = .ok (.invokevirtual 71, 3) := by decide +kernel
theorem dX11_isBroken_7 : decode cX11_isBroken 7 = .ok (.aload_n 0, 1) := by decide +kernel
theorem dX11_isBroken_8 : decode cX11_isBroken 8 = .ok (.iload_n 1, 1) := by decide +kernel
theorem dX11_isBroken_9 : decode cX11_isBroken 9 = .ok (.iload_n 2, 1) := by decide +kernel
theorem dX11_isBroken_10 : decode cX11_isBroken 10 = .ok (.iconst 1, 1) := by decide +kernel
theorem dX11_isBroken_11 : decode cX11_isBroken 11 = .ok (.invokevirtual 71, 3) := by decide +kernel
theorem dX11_isBroken_14 : decode cX11_isBroken 14 = .ok (.if_icmp .ne 7, 3) := by decide +kernel
theorem dX11_isBroken_17 : decode cX11_isBroken 17 = .ok (.iconst 1, 1) := by decide +kernel
theorem dX11_isBroken_18 : decode cX11_isBroken 18 = .ok (.goto 4, 3) := by decide +kernel
theorem dX11_isBroken_21 : decode cX11_isBroken 21 = .ok (.iconst 0, 1) := by decide +kernel
theorem dX11_isBroken_22 : decode cX11_isBroken 22 = .ok (.ireturn, 1) := by decide +kernel
theorem dX11_doneSet_0 : decode cX11_doneSet 0 = .ok (.iconst 0, 1) := by decide +kernel
theorem dX11_doneSet_1 : decode cX11_doneSet 1 = .ok (.istore_n 2, 1) := by decide +kernel
theorem dX11_doneSet_2 : decode cX11_doneSet 2 = .ok (.iconst 0, 1) := by decide +kernel
theorem dX11_doneSet_3 : decode cX11_doneSet 3 = .ok (.istore_n 3, 1) := by decide +kernel
theorem dX11_doneSet_4 : decode cX11_doneSet 4 = .ok (.iload_n 3, 1) := by decide +kernel
theorem dX11_doneSet_5 : decode cX11_doneSet 5 = .ok (.aload_n 0, 1) := by decide +kernel
theorem dX11_doneSet_6 : decode cX11_doneSet 6 = .ok (.iload_n 1, 1) := by decide +kernel
theorem dX11_doneSet_7 : decode cX11_doneSet 7 = .ok (.invokevirtual 75, 3) := by decide +kernel
theorem dX11_doneSet_10 : decode cX11_doneSet 10 = .ok (.if_icmp .ge 21, 3) := by decide +kernel
theorem dX11_doneSet_13 : decode cX11_doneSet 13 = .ok (.iload_n 2, 1) := by decide +kernel
theorem dX11_doneSet_14 : decode cX11_doneSet 14 = .ok (.aload_n 0, 1) := by decide +kernel
theorem dX11_doneSet_15 : decode cX11_doneSet 15 = .ok (.iload_n 1, 1) := by decide +kernel
theorem dX11_doneSet_16 : decode cX11_doneSet 16 = .ok (.iload_n 3, 1) := by decide +kernel
theorem dX11_doneSet_17 : decode cX11_doneSet 17 = .ok (.iconst 3, 1) := by decide +kernel
theorem dX11_doneSet_18 : decode cX11_doneSet 18 = .ok (.invokevirtual 71, 3) := by decide +kernel
theorem dX11_doneSet_21 : decode cX11_doneSet 21 = .ok (.iload_n 3, 1) := by decide +kernel
theorem dX11_doneSet_22 : decode cX11_doneSet 22 = .ok (.ishl, 1) := by decide +kernel
theorem dX11_doneSet_23 : decode cX11_doneSet 23 = .ok (.ior, 1) := by decide +kernel
theorem dX11_doneSet_24 : decode cX11_doneSet 24 = .ok (.istore_n 2, 1) := by decide +kernel
theorem dX11_doneSet_25 : decode cX11_doneSet 25 = .ok (.iinc 3 1, 3) := by decide +kernel
theorem dX11_doneSet_28 : decode cX11_doneSet 28 = .ok (.goto (-24), 3) := by decide +kernel
theorem dX11_doneSet_31 : decode cX11_doneSet 31 = .ok (.iload_n 2, 1) := by decide +kernel
theorem dX11_doneSet_32 : decode cX11_doneSet 32 = .ok (.ireturn, 1) := by decide +kernel
theorem dX11_brokenSet_0 : decode cX11_brokenSet 0 = .ok (.iconst 0, 1) := by decide +kernel
theorem dX11_brokenSet_1 : decode cX11_brokenSet 1 = .ok (.istore_n 2, 1) := by decide +kernel
theorem dX11_brokenSet_2 : decode cX11_brokenSet 2 = .ok (.iconst 0, 1) := by decide +kernel
theorem dX11_brokenSet_3 : decode cX11_brokenSet 3 = .ok (.istore_n 3, 1) := by decide +kernel
theorem dX11_brokenSet_4 : decode cX11_brokenSet 4 = .ok (.iload_n 3, 1) := by decide +kernel
theorem dX11_brokenSet_5 : decode cX11_brokenSet 5 = .ok (.aload_n 0, 1) := by decide +kernel
theorem dX11_brokenSet_6 : decode cX11_brokenSet 6 = .ok (.iload_n 1, 1) := by decide +kernel
theorem dX11_brokenSet_7 : decode cX11_brokenSet 7 = .ok (.invokevirtual 75, 3) := by decide +kernel
theorem dX11_brokenSet_10 : decode cX11_brokenSet 10 = .ok (.if_icmp .ge 28, 3) := by decide +kernel
theorem dX11_brokenSet_13 : decode cX11_brokenSet 13 = .ok (.iload_n 2, 1) := by decide +kernel
theorem dX11_brokenSet_14 : decode cX11_brokenSet 14 = .ok (.aload_n 0, 1) := by decide +kernel
theorem dX11_brokenSet_15 : decode cX11_brokenSet 15 = .ok (.iload_n 1, 1) := by decide +kernel
theorem dX11_brokenSet_16 : decode cX11_brokenSet 16 = .ok (.iload_n 3, 1) := by decide +kernel
theorem dX11_brokenSet_17 : decode cX11_brokenSet 17 = .ok (.invokevirtual 78, 3) := by decide +kernel
theorem dX11_brokenSet_20 : decode cX11_brokenSet 20 = .ok (.ifCond .eq 9, 3) := by decide +kernel
theorem dX11_brokenSet_23 : decode cX11_brokenSet 23 = .ok (.iconst 1, 1) := by decide +kernel
theorem dX11_brokenSet_24 : decode cX11_brokenSet 24 = .ok (.iload_n 3, 1) := by decide +kernel
theorem dX11_brokenSet_25 : decode cX11_brokenSet 25 = .ok (.ishl, 1) := by decide +kernel
theorem dX11_brokenSet_26 : decode cX11_brokenSet 26 = .ok (.goto 4, 3) := by decide +kernel
theorem dX11_brokenSet_29 : decode cX11_brokenSet 29 = .ok (.iconst 0, 1) := by decide +kernel
theorem dX11_brokenSet_30 : decode cX11_brokenSet 30 = .ok (.ior, 1) := by decide +kernel
theorem dX11_brokenSet_31 : decode cX11_brokenSet 31 = .ok (.istore_n 2, 1) := by decide +kernel
theorem dX11_brokenSet_32 : decode cX11_brokenSet 32 = .ok (.iinc 3 1, 3) := by decide +kernel
theorem dX11_brokenSet_35 : decode cX11_brokenSet 35 = .ok (.goto (-31), 3) := by decide +kernel
theorem dX11_brokenSet_38 : decode cX11_brokenSet 38 = .ok (.iload_n 2, 1) := by decide +kernel
theorem dX11_brokenSet_39 : decode cX11_brokenSet 39 = .ok (.ireturn, 1) := by decide +kernel
theorem dX11_failsOf_0 : decode cX11_failsOf 0 = .ok (.iconst 0, 1) := by decide +kernel
theorem dX11_failsOf_1 : decode cX11_failsOf 1 = .ok (.istore_n 2, 1) := by decide +kernel
theorem dX11_failsOf_2 : decode cX11_failsOf 2 = .ok (.iconst 0, 1) := by decide +kernel
theorem dX11_failsOf_3 : decode cX11_failsOf 3 = .ok (.istore_n 3, 1) := by decide +kernel
theorem dX11_failsOf_4 : decode cX11_failsOf 4 = .ok (.iload_n 3, 1) := by decide +kernel
theorem dX11_failsOf_5 : decode cX11_failsOf 5 = .ok (.aload_n 0, 1) := by decide +kernel
theorem dX11_failsOf_6 : decode cX11_failsOf 6 = .ok (.iload_n 1, 1) := by decide +kernel
theorem dX11_failsOf_7 : decode cX11_failsOf 7 = .ok (.invokevirtual 75, 3) := by decide +kernel
theorem dX11_failsOf_10 : decode cX11_failsOf 10 = .ok (.if_icmp .ge 19, 3) := by decide +kernel
theorem dX11_failsOf_13 : decode cX11_failsOf 13 = .ok (.iload_n 2, 1) := by decide +kernel
theorem dX11_failsOf_14 : decode cX11_failsOf 14 = .ok (.aload_n 0, 1) := by decide +kernel
theorem dX11_failsOf_15 : decode cX11_failsOf 15 = .ok (.iload_n 1, 1) := by decide +kernel
theorem dX11_failsOf_16 : decode cX11_failsOf 16 = .ok (.iload_n 3, 1) := by decide +kernel
theorem dX11_failsOf_17 : decode cX11_failsOf 17 = .ok (.iconst 2, 1) := by decide +kernel
theorem dX11_failsOf_18 : decode cX11_failsOf 18 = .ok (.invokevirtual 71, 3) := by decide +kernel
theorem dX11_failsOf_21 : decode cX11_failsOf 21 = .ok (.iadd, 1) := by decide +kernel
theorem dX11_failsOf_22 : decode cX11_failsOf 22 = .ok (.istore_n 2, 1) := by decide +kernel
theorem dX11_failsOf_23 : decode cX11_failsOf 23 = .ok (.iinc 3 1, 3) := by decide +kernel
theorem dX11_failsOf_26 : decode cX11_failsOf 26 = .ok (.goto (-22), 3) := by decide +kernel
theorem dX11_failsOf_29 : decode cX11_failsOf 29 = .ok (.iload_n 2, 1) := by decide +kernel
theorem dX11_failsOf_30 : decode cX11_failsOf 30 = .ok (.ireturn, 1) := by decide +kernel
theorem dX11_holdsBy_0 : decode cX11_holdsBy 0 = .ok (.iconst 0, 1) := by decide +kernel
theorem dX11_holdsBy_1 : decode cX11_holdsBy 1 = .ok (.istore_n 3, 1) := by decide +kernel
theorem dX11_holdsBy_2 : decode cX11_holdsBy 2 = .ok (.aload_n 0, 1) := by decide +kernel
theorem dX11_holdsBy_3 : decode cX11_holdsBy 3 = .ok (.iload_n 1, 1) := by decide +kernel
theorem dX11_holdsBy_4 : decode cX11_holdsBy 4 = .ok (.iconst 4, 1) := by decide +kernel
theorem dX11_holdsBy_5 : decode cX11_holdsBy 5 = .ok (.invokevirtual 68, 3) := by decide +kernel
theorem dX11_holdsBy_8 : decode cX11_holdsBy 8 = .ok (.istore 4, 2) := by decide +kernel
theorem dX11_holdsBy_10 : decode cX11_holdsBy 10 = .ok (.iload 4, 2) := by decide +kernel
theorem dX11_holdsBy_12 : decode cX11_holdsBy 12 = .ok (.aload_n 0, 1) := by decide +kernel
theorem dX11_holdsBy_13 : decode cX11_holdsBy 13 = .ok (.iload_n 1, 1) := by decide +kernel
theorem dX11_holdsBy_14 : decode cX11_holdsBy 14 = .ok (.iconst 5, 1) := by decide +kernel
theorem dX11_holdsBy_15 : decode cX11_holdsBy 15 = .ok (.invokevirtual 68, 3) := by decide +kernel
theorem dX11_holdsBy_18 : decode cX11_holdsBy 18 = .ok (.if_icmp .ge 195, 3) := by decide +kernel
theorem dX11_holdsBy_21 : decode cX11_holdsBy 21 = .ok (.aload_n 0, 1) := by decide +kernel
theorem dX11_holdsBy_22 : decode cX11_holdsBy 22 = .ok (.sipush 2769, 3) := by decide +kernel
theorem dX11_holdsBy_25 : decode cX11_holdsBy 25 = .ok (.iconst 2, 1) := by decide +kernel
theorem dX11_holdsBy_26 : decode cX11_holdsBy 26 = .ok (.iload 4, 2) := by decide +kernel
theorem dX11_holdsBy_28 : decode cX11_holdsBy 28 = .ok (.imul, 1) := by decide +kernel
theorem dX11_holdsBy_29 : decode cX11_holdsBy 29 = .ok (.iadd, 1) := by decide +kernel
theorem dX11_holdsBy_30 : decode cX11_holdsBy 30 = .ok (.invokevirtual 53, 3) := by decide +kernel
theorem dX11_holdsBy_33 : decode cX11_holdsBy 33 = .ok (.istore 5, 2) := by decide +kernel
theorem dX11_holdsBy_35 : decode cX11_holdsBy 35 = .ok (.aload_n 0, 1) := by decide +kernel
theorem dX11_holdsBy_36 : decode cX11_holdsBy 36 = .ok (.sipush 2769, 3) := by decide +kernel
theorem dX11_holdsBy_39 : decode cX11_holdsBy 39 = .ok (.iconst 2, 1) := by decide +kernel
theorem dX11_holdsBy_40 : decode cX11_holdsBy 40 = .ok (.iload 4, 2) := by decide +kernel
theorem dX11_holdsBy_42 : decode cX11_holdsBy 42 = .ok (.imul, 1) := by decide +kernel
theorem dX11_holdsBy_43 : decode cX11_holdsBy 43 = .ok (.iadd, 1) := by decide +kernel
theorem dX11_holdsBy_44 : decode cX11_holdsBy 44 = .ok (.iconst 1, 1) := by decide +kernel
theorem dX11_holdsBy_45 : decode cX11_holdsBy 45 = .ok (.iadd, 1) := by decide +kernel
theorem dX11_holdsBy_46 : decode cX11_holdsBy 46 = .ok (.invokevirtual 53, 3) := by decide +kernel
theorem dX11_holdsBy_49 : decode cX11_holdsBy 49 = .ok (.istore 6, 2) := by decide +kernel
theorem dX11_holdsBy_51 : decode cX11_holdsBy 51 = .ok (.iload 5, 2) := by decide +kernel
theorem dX11_holdsBy_53 : decode cX11_holdsBy 53 = .ok (.ifCond .ne 21, 3) := by decide +kernel
theorem dX11_holdsBy_56 : decode cX11_holdsBy 56 = .ok (.aload_n 0, 1) := by decide +kernel
theorem dX11_holdsBy_57 : decode cX11_holdsBy 57 = .ok (.getfield 17, 3) := by decide +kernel
theorem dX11_holdsBy_60 : decode cX11_holdsBy 60 = .ok (.iload_n 3, 1) := by decide +kernel
theorem dX11_holdsBy_61 : decode cX11_holdsBy 61 = .ok (.iload_n 2, 1) := by decide +kernel
theorem dX11_holdsBy_62 : decode cX11_holdsBy 62 = .ok (.iload 6, 2) := by decide +kernel
theorem dX11_holdsBy_64 : decode cX11_holdsBy 64 = .ok (.ishr, 1) := by decide +kernel
theorem dX11_holdsBy_65 : decode cX11_holdsBy 65 = .ok (.iconst 1, 1) := by decide +kernel
theorem dX11_holdsBy_66 : decode cX11_holdsBy 66 = .ok (.iand, 1) := by decide +kernel
theorem dX11_holdsBy_67 : decode cX11_holdsBy 67 = .ok (.iastore, 1) := by decide +kernel
theorem dX11_holdsBy_68 : decode cX11_holdsBy 68 = .ok (.iinc 3 1, 3) := by decide +kernel
theorem dX11_holdsBy_71 : decode cX11_holdsBy 71 = .ok (.goto 136, 3) := by decide +kernel
theorem dX11_holdsBy_74 : decode cX11_holdsBy 74 = .ok (.iload 5, 2) := by decide +kernel
theorem dX11_holdsBy_76 : decode cX11_holdsBy 76 = .ok (.iconst 3, 1) := by decide +kernel
theorem dX11_holdsBy_77 : decode cX11_holdsBy 77 = .ok (.if_icmp .ne 80, 3) := by decide +kernel
theorem dX11_holdsBy_80 : decode cX11_holdsBy 80 = .ok (.iload 6, 2) := by decide +kernel
theorem dX11_holdsBy_82 : decode cX11_holdsBy 82 = .ok (.sipush 1000, 3) := by decide +kernel
theorem dX11_holdsBy_85 : decode cX11_holdsBy 85 = .ok (.irem, 1) := by decide +kernel
theorem dX11_holdsBy_86 : decode cX11_holdsBy 86 = .ok (.istore 7, 2) := by decide +kernel
theorem dX11_holdsBy_88 : decode cX11_holdsBy 88 = .ok (.iconst 0, 1) := by decide +kernel
theorem dX11_holdsBy_89 : decode cX11_holdsBy 89 = .ok (.istore 8, 2) := by decide +kernel
theorem dX11_holdsBy_91 : decode cX11_holdsBy 91 = .ok (.iconst 0, 1) := by decide +kernel
theorem dX11_holdsBy_92 : decode cX11_holdsBy 92 = .ok (.istore 9, 2) := by decide +kernel
theorem dX11_holdsBy_94 : decode cX11_holdsBy 94 = .ok (.iload 9, 2) := by decide +kernel
theorem dX11_holdsBy_96 : decode cX11_holdsBy 96 = .ok (.iload 7, 2) := by decide +kernel
theorem dX11_holdsBy_98 : decode cX11_holdsBy 98 = .ok (.if_icmp .ge 25, 3) := by decide +kernel
theorem dX11_holdsBy_101 : decode cX11_holdsBy 101 = .ok (.iload 8, 2) := by decide +kernel
theorem dX11_holdsBy_103 : decode cX11_holdsBy 103 = .ok (.aload_n 0, 1) := by decide +kernel
theorem dX11_holdsBy_104 : decode cX11_holdsBy 104 = .ok (.getfield 17, 3) := by decide +kernel
theorem dX11_holdsBy_107 : decode cX11_holdsBy 107 = .ok (.iload_n 3, 1) := by decide +kernel
theorem dX11_holdsBy_108 : decode cX11_holdsBy 108 = .ok (.iconst 1, 1) := by decide +kernel
theorem dX11_holdsBy_109 : decode cX11_holdsBy 109 = .ok (.isub, 1) := by decide +kernel
theorem dX11_holdsBy_110 : decode cX11_holdsBy 110 = .ok (.iload 9, 2) := by decide +kernel
theorem dX11_holdsBy_112 : decode cX11_holdsBy 112 = .ok (.isub, 1) := by decide +kernel
theorem dX11_holdsBy_113 : decode cX11_holdsBy 113 = .ok (.iaload, 1) := by decide +kernel
theorem dX11_holdsBy_114 : decode cX11_holdsBy 114 = .ok (.iadd, 1) := by decide +kernel
theorem dX11_holdsBy_115 : decode cX11_holdsBy 115 = .ok (.istore 8, 2) := by decide +kernel
theorem dX11_holdsBy_117 : decode cX11_holdsBy 117 = .ok (.iinc 9 1, 3) := by decide +kernel
theorem dX11_holdsBy_120 : decode cX11_holdsBy 120 = .ok (.goto (-26), 3) := by decide +kernel
theorem dX11_holdsBy_123 : decode cX11_holdsBy 123 = .ok (.iload_n 3, 1) := by decide +kernel
theorem dX11_holdsBy_124 : decode cX11_holdsBy 124 = .ok (.iload 7, 2) := by decide +kernel
theorem dX11_holdsBy_126 : decode cX11_holdsBy 126 = .ok (.iconst 1, 1) := by decide +kernel
theorem dX11_holdsBy_127 : decode cX11_holdsBy 127 = .ok (.isub, 1) := by decide +kernel
theorem dX11_holdsBy_128 : decode cX11_holdsBy 128 = .ok (.isub, 1) := by decide +kernel
theorem dX11_holdsBy_129 : decode cX11_holdsBy 129 = .ok (.istore_n 3, 1) := by decide +kernel
theorem dX11_holdsBy_130 : decode cX11_holdsBy 130 = .ok (.aload_n 0, 1) := by decide +kernel
theorem dX11_holdsBy_131 : decode cX11_holdsBy 131 = .ok (.getfield 17, 3) := by decide +kernel
theorem dX11_holdsBy_134 : decode cX11_holdsBy 134 = .ok (.iload_n 3, 1) := by decide +kernel
theorem dX11_holdsBy_135 : decode cX11_holdsBy 135 = .ok (.iconst 1, 1) := by decide +kernel
theorem dX11_holdsBy_136 : decode cX11_holdsBy 136 = .ok (.isub, 1) := by decide +kernel
theorem dX11_holdsBy_137 : decode cX11_holdsBy 137 = .ok (.iload 8, 2) := by decide +kernel
theorem dX11_holdsBy_139 : decode cX11_holdsBy 139 = .ok (.iload 6, 2) := by decide +kernel
theorem dX11_holdsBy_141 : decode cX11_holdsBy 141 = .ok (.sipush 1000, 3) := by decide +kernel
theorem dX11_holdsBy_144 : decode cX11_holdsBy 144 = .ok (.idiv, 1) := by decide +kernel
theorem dX11_holdsBy_145 : decode cX11_holdsBy 145 = .ok (.if_icmp .lt 7, 3) := by decide +kernel
theorem dX11_holdsBy_148 : decode cX11_holdsBy 148 = .ok (.iconst 1, 1) := by decide +kernel
theorem dX11_holdsBy_149 : decode cX11_holdsBy 149 = .ok (.goto 4, 3) := by decide +kernel
theorem dX11_holdsBy_152 : decode cX11_holdsBy 152 = .ok (.iconst 0, 1) := by decide +kernel
theorem dX11_holdsBy_153 : decode cX11_holdsBy 153 = .ok (.iastore, 1) := by decide +kernel
theorem dX11_holdsBy_154 : decode cX11_holdsBy 154 = .ok (.goto 53, 3) := by decide +kernel
theorem dX11_holdsBy_157 : decode cX11_holdsBy 157 = .ok (.iinc 3 (-1), 3) := by decide +kernel
theorem dX11_holdsBy_160 : decode cX11_holdsBy 160 = .ok (.aload_n 0, 1) := by decide +kernel
theorem dX11_holdsBy_161 : decode cX11_holdsBy 161 = .ok (.getfield 17, 3) := by decide +kernel
theorem dX11_holdsBy_164 : decode cX11_holdsBy 164 = .ok (.iload_n 3, 1) := by decide +kernel
theorem dX11_holdsBy_165 : decode cX11_holdsBy 165 = .ok (.iconst 1, 1) := by decide +kernel
theorem dX11_holdsBy_166 : decode cX11_holdsBy 166 = .ok (.isub, 1) := by decide +kernel
theorem dX11_holdsBy_167 : decode cX11_holdsBy 167 = .ok (.iload 5, 2) := by decide +kernel
theorem dX11_holdsBy_169 : decode cX11_holdsBy 169 = .ok (.iconst 1, 1) := by decide +kernel
theorem dX11_holdsBy_170 : decode cX11_holdsBy 170 = .ok (.if_icmp .ne 21, 3) := by decide +kernel
theorem dX11_holdsBy_173 : decode cX11_holdsBy 173 = .ok (.aload_n 0, 1) := by decide +kernel
theorem dX11_holdsBy_174 : decode cX11_holdsBy 174 = .ok (.getfield 17, 3) := by decide +kernel
theorem dX11_holdsBy_177 : decode cX11_holdsBy 177 = .ok (.iload_n 3, 1) := by decide +kernel
theorem dX11_holdsBy_178 : decode cX11_holdsBy 178 = .ok (.iconst 1, 1) := by decide +kernel
theorem dX11_holdsBy_179 : decode cX11_holdsBy 179 = .ok (.isub, 1) := by decide +kernel
theorem dX11_holdsBy_180 : decode cX11_holdsBy 180 = .ok (.iaload, 1) := by decide +kernel
theorem dX11_holdsBy_181 : decode cX11_holdsBy 181 = .ok (.aload_n 0, 1) := by decide +kernel
theorem dX11_holdsBy_182 : decode cX11_holdsBy 182 = .ok (.getfield 17, 3) := by decide +kernel
theorem dX11_holdsBy_185 : decode cX11_holdsBy 185 = .ok (.iload_n 3, 1) := by decide +kernel
theorem dX11_holdsBy_186 : decode cX11_holdsBy 186 = .ok (.iaload, 1) := by decide +kernel
theorem dX11_holdsBy_187 : decode cX11_holdsBy 187 = .ok (.iand, 1) := by decide +kernel
theorem dX11_holdsBy_188 : decode cX11_holdsBy 188 = .ok (.goto 18, 3) := by decide +kernel
theorem dX11_holdsBy_191 : decode cX11_holdsBy 191 = .ok (.aload_n 0, 1) := by decide +kernel
theorem dX11_holdsBy_192 : decode cX11_holdsBy 192 = .ok (.getfield 17, 3) := by decide +kernel
theorem dX11_holdsBy_195 : decode cX11_holdsBy 195 = .ok (.iload_n 3, 1) := by decide +kernel
theorem dX11_holdsBy_196 : decode cX11_holdsBy 196 = .ok (.iconst 1, 1) := by decide +kernel
theorem dX11_holdsBy_197 : decode cX11_holdsBy 197 = .ok (.isub, 1) := by decide +kernel
theorem dX11_holdsBy_198 : decode cX11_holdsBy 198 = .ok (.iaload, 1) := by decide +kernel
theorem dX11_holdsBy_199 : decode cX11_holdsBy 199 = .ok (.aload_n 0, 1) := by decide +kernel
theorem dX11_holdsBy_200 : decode cX11_holdsBy 200 = .ok (.getfield 17, 3) := by decide +kernel
theorem dX11_holdsBy_203 : decode cX11_holdsBy 203 = .ok (.iload_n 3, 1) := by decide +kernel
theorem dX11_holdsBy_204 : decode cX11_holdsBy 204 = .ok (.iaload, 1) := by decide +kernel
theorem dX11_holdsBy_205 : decode cX11_holdsBy 205 = .ok (.ior, 1) := by decide +kernel
theorem dX11_holdsBy_206 : decode cX11_holdsBy 206 = .ok (.iastore, 1) := by decide +kernel
theorem dX11_holdsBy_207 : decode cX11_holdsBy 207 = .ok (.iinc 4 1, 3) := by decide +kernel
theorem dX11_holdsBy_210 : decode cX11_holdsBy 210 = .ok (.goto (-200), 3) := by decide +kernel
theorem dX11_holdsBy_213 : decode cX11_holdsBy 213 = .ok (.aload_n 0, 1) := by decide +kernel
theorem dX11_holdsBy_214 : decode cX11_holdsBy 214 = .ok (.getfield 17, 3) := by decide +kernel
theorem dX11_holdsBy_217 : decode cX11_holdsBy 217 = .ok (.iconst 0, 1) := by decide +kernel
theorem dX11_holdsBy_218 : decode cX11_holdsBy 218 = .ok (.iaload, 1) := by decide +kernel
theorem dX11_holdsBy_219 : decode cX11_holdsBy 219 = .ok (.iconst 1, 1) := by decide +kernel
theorem dX11_holdsBy_220 : decode cX11_holdsBy 220 = .ok (.if_icmp .ne 7, 3) := by decide +kernel
theorem dX11_holdsBy_223 : decode cX11_holdsBy 223 = .ok (.iconst 1, 1) := by decide +kernel
theorem dX11_holdsBy_224 : decode cX11_holdsBy 224 = .ok (.goto 4, 3) := by decide +kernel
theorem dX11_holdsBy_227 : decode cX11_holdsBy 227 = .ok (.iconst 0, 1) := by decide +kernel
theorem dX11_holdsBy_228 : decode cX11_holdsBy 228 = .ok (.ireturn, 1) := by decide +kernel
theorem dX11_asItIs_0 : decode cX11_asItIs 0 = .ok (.iconst 0, 1) := by decide +kernel
theorem dX11_asItIs_1 : decode cX11_asItIs 1 = .ok (.istore_n 1, 1) := by decide +kernel
theorem dX11_asItIs_2 : decode cX11_asItIs 2 = .ok (.iload_n 1, 1) := by decide +kernel
theorem dX11_asItIs_3 : decode cX11_asItIs 3 = .ok (.bipush 8, 2) := by decide +kernel
theorem dX11_asItIs_5 : decode cX11_asItIs 5 = .ok (.if_icmp .ge 22, 3) := by decide +kernel
theorem dX11_asItIs_8 : decode cX11_asItIs 8 = .ok (.aload_n 0, 1) := by decide +kernel
theorem dX11_asItIs_9 : decode cX11_asItIs 9 = .ok (.getfield 20, 3) := by decide +kernel
theorem dX11_asItIs_12 : decode cX11_asItIs 12 = .ok (.iload_n 1, 1) := by decide +kernel
theorem dX11_asItIs_13 : decode cX11_asItIs 13 = .ok (.aload_n 0, 1) := by decide +kernel
theorem dX11_asItIs_14 : decode cX11_asItIs 14 = .ok (.iconst 5, 1) := by decide +kernel
theorem dX11_asItIs_15 : decode cX11_asItIs 15 = .ok (.iload_n 1, 1) := by decide +kernel
theorem dX11_asItIs_16 : decode cX11_asItIs 16 = .ok (.iadd, 1) := by decide +kernel
theorem dX11_asItIs_17 : decode cX11_asItIs 17 = .ok (.invokevirtual 53, 3) := by decide +kernel
theorem dX11_asItIs_20 : decode cX11_asItIs 20 = .ok (.iastore, 1) := by decide +kernel
theorem dX11_asItIs_21 : decode cX11_asItIs 21 = .ok (.iinc 1 1, 3) := by decide +kernel
theorem dX11_asItIs_24 : decode cX11_asItIs 24 = .ok (.goto (-22), 3) := by decide +kernel
theorem dX11_asItIs_27 : decode cX11_asItIs 27 = .ok (.return_, 1) := by decide +kernel
theorem dX11_behind_0 : decode cX11_behind 0 = .ok (.aload_n 0, 1) := by decide +kernel
theorem dX11_behind_1 : decode cX11_behind 1 = .ok (.getfield 20, 3) := by decide +kernel
theorem dX11_behind_4 : decode cX11_behind 4 = .ok (.iload_n 3, 1) := by decide +kernel
theorem dX11_behind_5 : decode cX11_behind 5 = .ok (.iaload, 1) := by decide +kernel
theorem dX11_behind_6 : decode cX11_behind 6 = .ok (.istore 4, 2) := by decide +kernel
theorem dX11_behind_8 : decode cX11_behind 8 = .ok (.iconst 0, 1) := by decide +kernel
theorem dX11_behind_9 : decode cX11_behind 9 = .ok (.istore 5, 2) := by decide +kernel
theorem dX11_behind_11 : decode cX11_behind 11 = .ok (.iload 5, 2) := by decide +kernel
theorem dX11_behind_13 : decode cX11_behind 13 = .ok (.aload_n 0, 1) := by decide +kernel
theorem dX11_behind_14 : decode cX11_behind 14 = .ok (.iload_n 1, 1) := by decide +kernel
theorem dX11_behind_15 : decode cX11_behind 15 = .ok (.invokevirtual 75, 3) := by decide +kernel
theorem dX11_behind_18 : decode cX11_behind 18 = .ok (.if_icmp .ge 47, 3) := by decide +kernel
theorem dX11_behind_21 : decode cX11_behind 21 = .ok (.iload_n 2, 1) := by decide +kernel
theorem dX11_behind_22 : decode cX11_behind 22 = .ok (.iload 5, 2) := by decide +kernel
theorem dX11_behind_24 : decode cX11_behind 24 = .ok (.ishr, 1) := by decide +kernel
theorem dX11_behind_25 : decode cX11_behind 25 = .ok (.iconst 1, 1) := by decide +kernel
theorem dX11_behind_26 : decode cX11_behind 26 = .ok (.iand, 1) := by decide +kernel
theorem dX11_behind_27 : decode cX11_behind 27 = .ok (.iconst 1, 1) := by decide +kernel
theorem dX11_behind_28 : decode cX11_behind 28 = .ok (.if_icmp .ne 31, 3) := by decide +kernel
theorem dX11_behind_31 : decode cX11_behind 31 = .ok (.iload 4, 2) := by decide +kernel
theorem dX11_behind_33 : decode cX11_behind 33 = .ok (.aload_n 0, 1) := by decide +kernel
theorem dX11_behind_34 : decode cX11_behind 34 = .ok (.iload_n 1, 1) := by decide +kernel
theorem dX11_behind_35 : decode cX11_behind 35 = .ok (.iload 5, 2) := by decide +kernel
theorem dX11_behind_37 : decode cX11_behind 37 = .ok (.bipush 22, 2) := by decide +kernel
theorem dX11_behind_39 : decode cX11_behind 39 = .ok (.iload_n 3, 1) := by decide +kernel
theorem dX11_behind_40 : decode cX11_behind 40 = .ok (.iadd, 1) := by decide +kernel
theorem dX11_behind_41 : decode cX11_behind 41 = .ok (.invokevirtual 71, 3) := by decide +kernel
theorem dX11_behind_44 : decode cX11_behind 44 = .ok (.aload_n 0, 1) := by decide +kernel
theorem dX11_behind_45 : decode cX11_behind 45 = .ok (.iload_n 1, 1) := by decide +kernel
theorem dX11_behind_46 : decode cX11_behind 46 = .ok (.iload 5, 2) := by decide +kernel
theorem dX11_behind_48 : decode cX11_behind 48 = .ok (.bipush 6, 2) := by decide +kernel
theorem dX11_behind_50 : decode cX11_behind 50 = .ok (.iload_n 3, 1) := by decide +kernel
theorem dX11_behind_51 : decode cX11_behind 51 = .ok (.iadd, 1) := by decide +kernel
theorem dX11_behind_52 : decode cX11_behind 52 = .ok (.invokevirtual 71, 3) := by decide +kernel
theorem dX11_behind_55 : decode cX11_behind 55 = .ok (.isub, 1) := by decide +kernel
theorem dX11_behind_56 : decode cX11_behind 56 = .ok (.iadd, 1) := by decide +kernel
theorem dX11_behind_57 : decode cX11_behind 57 = .ok (.istore 4, 2) := by decide +kernel
theorem dX11_behind_59 : decode cX11_behind 59 = .ok (.iinc 5 1, 3) := by decide +kernel
theorem dX11_behind_62 : decode cX11_behind 62 = .ok (.goto (-51), 3) := by decide +kernel
theorem dX11_behind_65 : decode cX11_behind 65 = .ok (.iload 4, 2) := by decide +kernel
theorem dX11_behind_67 : decode cX11_behind 67 = .ok (.ireturn, 1) := by decide +kernel
theorem dX11_hasItems_0 : decode cX11_hasItems 0 = .ok (.iconst 0, 1) := by decide +kernel
theorem dX11_hasItems_1 : decode cX11_hasItems 1 = .ok (.istore 4, 2) := by decide +kernel
theorem dX11_hasItems_3 : decode cX11_hasItems 3 = .ok (.iload 4, 2) := by decide +kernel
theorem dX11_hasItems_5 : decode cX11_hasItems 5 = .ok (.bipush 8, 2) := by decide +kernel
theorem dX11_hasItems_7 : decode cX11_hasItems 7 = .ok (.if_icmp .ge 53, 3) := by decide +kernel
theorem dX11_hasItems_10 : decode cX11_hasItems 10 = .ok (.aload_n 0, 1) := by decide +kernel
theorem dX11_hasItems_11 : decode cX11_hasItems 11 = .ok (.iload_n 1, 1) := by decide +kernel
theorem dX11_hasItems_12 : decode cX11_hasItems 12 = .ok (.iload_n 3, 1) := by decide +kernel
theorem dX11_hasItems_13 : decode cX11_hasItems 13 = .ok (.iload 4, 2) := by decide +kernel
theorem dX11_hasItems_15 : decode cX11_hasItems 15 = .ok (.invokevirtual 82, 3) := by decide +kernel
theorem dX11_hasItems_18 : decode cX11_hasItems 18 = .ok (.istore 5, 2) := by decide +kernel
theorem dX11_hasItems_20 : decode cX11_hasItems 20 = .ok (.iload 5, 2) := by decide +kernel
theorem dX11_hasItems_22 : decode cX11_hasItems 22 = .ok (.aload_n 0, 1) := by decide +kernel
theorem dX11_hasItems_23 : decode cX11_hasItems 23 = .ok (.iload_n 1, 1) := by decide +kernel
theorem dX11_hasItems_24 : decode cX11_hasItems 24 = .ok (.iload_n 2, 1) := by decide +kernel
theorem dX11_hasItems_25 : decode cX11_hasItems 25 = .ok (.bipush 6, 2) := by decide +kernel
theorem dX11_hasItems_27 : decode cX11_hasItems 27 = .ok (.iload 4, 2) := by decide +kernel
theorem dX11_hasItems_29 : decode cX11_hasItems 29 = .ok (.iadd, 1) := by decide +kernel
theorem dX11_hasItems_30 : decode cX11_hasItems 30 = .ok (.invokevirtual 71, 3) := by decide +kernel
theorem dX11_hasItems_33 : decode cX11_hasItems 33 = .ok (.if_icmp .lt 19, 3) := by decide +kernel
theorem dX11_hasItems_36 : decode cX11_hasItems 36 = .ok (.iload 5, 2) := by decide +kernel
theorem dX11_hasItems_38 : decode cX11_hasItems 38 = .ok (.aload_n 0, 1) := by decide +kernel
theorem dX11_hasItems_39 : decode cX11_hasItems 39 = .ok (.iload_n 1, 1) := by decide +kernel
theorem dX11_hasItems_40 : decode cX11_hasItems 40 = .ok (.iload_n 2, 1) := by decide +kernel
theorem dX11_hasItems_41 : decode cX11_hasItems 41 = .ok (.bipush 14, 2) := by decide +kernel
theorem dX11_hasItems_43 : decode cX11_hasItems 43 = .ok (.iload 4, 2) := by decide +kernel
theorem dX11_hasItems_45 : decode cX11_hasItems 45 = .ok (.iadd, 1) := by decide +kernel
theorem dX11_hasItems_46 : decode cX11_hasItems 46 = .ok (.invokevirtual 71, 3) := by decide +kernel
theorem dX11_hasItems_49 : decode cX11_hasItems 49 = .ok (.if_icmp .ge 5, 3) := by decide +kernel
theorem dX11_hasItems_52 : decode cX11_hasItems 52 = .ok (.iconst 0, 1) := by decide +kernel
theorem dX11_hasItems_53 : decode cX11_hasItems 53 = .ok (.ireturn, 1) := by decide +kernel
theorem dX11_hasItems_54 : decode cX11_hasItems 54 = .ok (.iinc 4 1, 3) := by decide +kernel
theorem dX11_hasItems_57 : decode cX11_hasItems 57 = .ok (.goto (-54), 3) := by decide +kernel
theorem dX11_hasItems_60 : decode cX11_hasItems 60 = .ok (.iconst 1, 1) := by decide +kernel
theorem dX11_hasItems_61 : decode cX11_hasItems 61 = .ok (.ireturn, 1) := by decide +kernel
theorem dX11_can_0 : decode cX11_can 0 = .ok (.iload_n 3, 1) := by decide +kernel
theorem dX11_can_1 : decode cX11_can 1 = .ok (.iload_n 2, 1) := by decide +kernel
theorem dX11_can_2 : decode cX11_can 2 = .ok (.ishr, 1) := by decide +kernel
theorem dX11_can_3 : decode cX11_can 3 = .ok (.iconst 1, 1) := by decide +kernel
theorem dX11_can_4 : decode cX11_can 4 = .ok (.iand, 1) := by decide +kernel
theorem dX11_can_5 : decode cX11_can 5 = .ok (.ifCond .ne 45, 3) := by decide +kernel
theorem dX11_can_8 : decode cX11_can 8 = .ok (.aload_n 0, 1) := by decide +kernel
theorem dX11_can_9 : decode cX11_can 9 = .ok (.iload_n 1, 1) := by decide +kernel
theorem dX11_can_10 : decode cX11_can 10 = .ok (.iload_n 2, 1) := by decide +kernel
theorem dX11_can_11 : decode cX11_can 11 = .ok (.invokevirtual 78, 3) := by decide +kernel
theorem dX11_can_14 : decode cX11_can 14 = .ok (.ifCond .ne 36, 3) := by decide +kernel
theorem dX11_can_17 : decode cX11_can 17 = .ok (.aload_n 0, 1) := by decide +kernel
theorem dX11_can_18 : decode cX11_can 18 = .ok (.iload_n 1, 1) := by decide +kernel
theorem dX11_can_19 : decode cX11_can 19 = .ok (.iload_n 2, 1) := by decide +kernel
theorem dX11_can_20 : decode cX11_can 20 = .ok (.iconst 4, 1) := by decide +kernel
theorem dX11_can_21 : decode cX11_can 21 = .ok (.invokevirtual 71, 3) := by decide +kernel
theorem dX11_can_24 : decode cX11_can 24 = .ok (.iload_n 3, 1) := by decide +kernel
theorem dX11_can_25 : decode cX11_can 25 = .ok (.iconst (-1), 1) := by decide +kernel
theorem dX11_can_26 : decode cX11_can 26 = .ok (.ixor, 1) := by decide +kernel
theorem dX11_can_27 : decode cX11_can 27 = .ok (.iand, 1) := by decide +kernel
theorem dX11_can_28 : decode cX11_can 28 = .ok (.ifCond .ne 22, 3) := by decide +kernel
theorem dX11_can_31 : decode cX11_can 31 = .ok (.aload_n 0, 1) := by decide +kernel
theorem dX11_can_32 : decode cX11_can 32 = .ok (.iload_n 1, 1) := by decide +kernel
theorem dX11_can_33 : decode cX11_can 33 = .ok (.iload_n 2, 1) := by decide +kernel
theorem dX11_can_34 : decode cX11_can 34 = .ok (.iload_n 3, 1) := by decide +kernel
theorem dX11_can_35 : decode cX11_can 35 = .ok (.iload 4, 2) := by decide +kernel
theorem dX11_can_37 : decode cX11_can 37 = .ok (.iconst (-1), 1) := by decide +kernel
theorem dX11_can_38 : decode cX11_can 38 = .ok (.ixor, 1) := by decide +kernel
theorem dX11_can_39 : decode cX11_can 39 = .ok (.iand, 1) := by decide +kernel
theorem dX11_can_40 : decode cX11_can 40 = .ok (.invokevirtual 85, 3) := by decide +kernel
theorem dX11_can_43 : decode cX11_can 43 = .ok (.ifCond .eq 7, 3) := by decide +kernel
theorem dX11_can_46 : decode cX11_can 46 = .ok (.iconst 1, 1) := by decide +kernel
theorem dX11_can_47 : decode cX11_can 47 = .ok (.goto 4, 3) := by decide +kernel
theorem dX11_can_50 : decode cX11_can 50 = .ok (.iconst 0, 1) := by decide +kernel
theorem dX11_can_51 : decode cX11_can 51 = .ok (.ireturn, 1) := by decide +kernel
theorem dX11_isQuestOpen_0 : decode cX11_isQuestOpen 0 = .ok (.aload_n 0, 1) := by decide +kernel
theorem dX11_isQuestOpen_1 : decode cX11_isQuestOpen 1 = .ok (.iload_n 1, 1) := by decide +kernel
theorem dX11_isQuestOpen_2 : decode cX11_isQuestOpen 2 = .ok (.iconst 1, 1) := by decide +kernel
theorem dX11_isQuestOpen_3 : decode cX11_isQuestOpen 3 = .ok (.invokevirtual 68, 3) := by decide +kernel
theorem dX11_isQuestOpen_6 : decode cX11_isQuestOpen 6 = .ok (.ifCond .ne 7, 3) := by decide +kernel
theorem dX11_isQuestOpen_9 : decode cX11_isQuestOpen 9 = .ok (.iconst 1, 1) := by decide +kernel
theorem dX11_isQuestOpen_10 : decode cX11_isQuestOpen 10 = .ok (.goto 4, 3) := by decide +kernel
theorem dX11_isQuestOpen_13 : decode cX11_isQuestOpen 13 = .ok (.iconst 0, 1) := by decide +kernel
theorem dX11_isQuestOpen_14 : decode cX11_isQuestOpen 14 = .ok (.ireturn, 1) := by decide +kernel
theorem dX11_ways_0 : decode cX11_ways 0 = .ok (.aload_n 0, 1) := by decide +kernel
theorem dX11_ways_1 : decode cX11_ways 1 = .ok (.aload_n 0, 1) := by decide +kernel
theorem dX11_ways_2 : decode cX11_ways 2 = .ok (.iload_n 1, 1) := by decide +kernel
theorem dX11_ways_3 : decode cX11_ways 3 = .ok (.invokevirtual 89, 3) := by decide +kernel
theorem dX11_ways_6 : decode cX11_ways 6 = .ok (.putfield 92, 3) := by decide +kernel
theorem dX11_ways_9 : decode cX11_ways 9 = .ok (.iconst 1, 1) := by decide +kernel
theorem dX11_ways_10 : decode cX11_ways 10 = .ok (.aload_n 0, 1) := by decide +kernel
theorem dX11_ways_11 : decode cX11_ways 11 = .ok (.iload_n 1, 1) := by decide +kernel
theorem dX11_ways_12 : decode cX11_ways 12 = .ok (.invokevirtual 75, 3) := by decide +kernel
theorem dX11_ways_15 : decode cX11_ways 15 = .ok (.ishl, 1) := by decide +kernel
theorem dX11_ways_16 : decode cX11_ways 16 = .ok (.iconst 1, 1) := by decide +kernel
theorem dX11_ways_17 : decode cX11_ways 17 = .ok (.isub, 1) := by decide +kernel
theorem dX11_ways_18 : decode cX11_ways 18 = .ok (.istore_n 2, 1) := by decide +kernel
theorem dX11_ways_19 : decode cX11_ways 19 = .ok (.iload_n 2, 1) := by decide +kernel
theorem dX11_ways_20 : decode cX11_ways 20 = .ok (.istore_n 3, 1) := by decide +kernel
theorem dX11_ways_21 : decode cX11_ways 21 = .ok (.iload_n 3, 1) := by decide +kernel
theorem dX11_ways_22 : decode cX11_ways 22 = .ok (.ifCond .lt 183, 3) := by decide +kernel
theorem dX11_ways_25 : decode cX11_ways 25 = .ok (.aload_n 0, 1) := by decide +kernel
theorem dX11_ways_26 : decode cX11_ways 26 = .ok (.getfield 23, 3) := by decide +kernel
theorem dX11_ways_29 : decode cX11_ways 29 = .ok (.iload_n 3, 1) := by decide +kernel
theorem dX11_ways_30 : decode cX11_ways 30 = .ok (.ldc 95, 2) := by decide +kernel
theorem dX11_ways_32 : decode cX11_ways 32 = .ok (.iastore, 1) := by decide +kernel
theorem dX11_ways_33 : decode cX11_ways 33 = .ok (.aload_n 0, 1) := by decide +kernel
theorem dX11_ways_34 : decode cX11_ways 34 = .ok (.getfield 26, 3) := by decide +kernel
theorem dX11_ways_37 : decode cX11_ways 37 = .ok (.iload_n 3, 1) := by decide +kernel
theorem dX11_ways_38 : decode cX11_ways 38 = .ok (.ldc 95, 2) := by decide +kernel
theorem dX11_ways_40 : decode cX11_ways 40 = .ok (.iastore, 1) := by decide +kernel
theorem dX11_ways_41 : decode cX11_ways 41 = .ok (.iload_n 3, 1) := by decide +kernel
theorem dX11_ways_42 : decode cX11_ways 42 = .ok (.aload_n 0, 1) := by decide +kernel
theorem dX11_ways_43 : decode cX11_ways 43 = .ok (.getfield 92, 3) := by decide +kernel
theorem dX11_ways_46 : decode cX11_ways 46 = .ok (.iand, 1) := by decide +kernel
theorem dX11_ways_47 : decode cX11_ways 47 = .ok (.aload_n 0, 1) := by decide +kernel
theorem dX11_ways_48 : decode cX11_ways 48 = .ok (.getfield 92, 3) := by decide +kernel
theorem dX11_ways_51 : decode cX11_ways 51 = .ok (.if_icmp .eq 6, 3) := by decide +kernel
theorem dX11_ways_54 : decode cX11_ways 54 = .ok (.goto 145, 3) := by decide +kernel
theorem dX11_ways_57 : decode cX11_ways 57 = .ok (.aload_n 0, 1) := by decide +kernel
theorem dX11_ways_58 : decode cX11_ways 58 = .ok (.iload_n 1, 1) := by decide +kernel
theorem dX11_ways_59 : decode cX11_ways 59 = .ok (.iload_n 3, 1) := by decide +kernel
theorem dX11_ways_60 : decode cX11_ways 60 = .ok (.invokevirtual 96, 3) := by decide +kernel
theorem dX11_ways_63 : decode cX11_ways 63 = .ok (.ifCond .eq 20, 3) := by decide +kernel
theorem dX11_ways_66 : decode cX11_ways 66 = .ok (.aload_n 0, 1) := by decide +kernel
theorem dX11_ways_67 : decode cX11_ways 67 = .ok (.getfield 23, 3) := by decide +kernel
theorem dX11_ways_70 : decode cX11_ways 70 = .ok (.iload_n 3, 1) := by decide +kernel
theorem dX11_ways_71 : decode cX11_ways 71 = .ok (.iconst 0, 1) := by decide +kernel
theorem dX11_ways_72 : decode cX11_ways 72 = .ok (.iastore, 1) := by decide +kernel
theorem dX11_ways_73 : decode cX11_ways 73 = .ok (.aload_n 0, 1) := by decide +kernel
theorem dX11_ways_74 : decode cX11_ways 74 = .ok (.getfield 26, 3) := by decide +kernel
theorem dX11_ways_77 : decode cX11_ways 77 = .ok (.iload_n 3, 1) := by decide +kernel
theorem dX11_ways_78 : decode cX11_ways 78 = .ok (.iconst 0, 1) := by decide +kernel
theorem dX11_ways_79 : decode cX11_ways 79 = .ok (.iastore, 1) := by decide +kernel
theorem dX11_ways_80 : decode cX11_ways 80 = .ok (.goto 119, 3) := by decide +kernel
theorem dX11_ways_83 : decode cX11_ways 83 = .ok (.iconst 0, 1) := by decide +kernel
theorem dX11_ways_84 : decode cX11_ways 84 = .ok (.istore 4, 2) := by decide +kernel
theorem dX11_ways_86 : decode cX11_ways 86 = .ok (.iload 4, 2) := by decide +kernel
theorem dX11_ways_88 : decode cX11_ways 88 = .ok (.aload_n 0, 1) := by decide +kernel
theorem dX11_ways_89 : decode cX11_ways 89 = .ok (.iload_n 1, 1) := by decide +kernel
theorem dX11_ways_90 : decode cX11_ways 90 = .ok (.invokevirtual 75, 3) := by decide +kernel
theorem dX11_ways_93 : decode cX11_ways 93 = .ok (.if_icmp .ge 106, 3) := by decide +kernel
theorem dX11_ways_96 : decode cX11_ways 96 = .ok (.aload_n 0, 1) := by decide +kernel
theorem dX11_ways_97 : decode cX11_ways 97 = .ok (.iload_n 1, 1) := by decide +kernel
theorem dX11_ways_98 : decode cX11_ways 98 = .ok (.iload 4, 2) := by decide +kernel
theorem dX11_ways_100 : decode cX11_ways 100 = .ok (.iload_n 3, 1) := by decide +kernel
theorem dX11_ways_101 : decode cX11_ways 101 = .ok (.aload_n 0, 1) := by decide +kernel
theorem dX11_ways_102 : decode cX11_ways 102 = .ok (.getfield 92, 3) := by decide +kernel
theorem dX11_ways_105 : decode cX11_ways 105 = .ok (.invokevirtual 99, 3) := by decide +kernel
theorem dX11_ways_108 : decode cX11_ways 108 = .ok (.ifCond .eq 85, 3) := by decide +kernel
theorem dX11_ways_111 : decode cX11_ways 111 = .ok (.aload_n 0, 1) := by decide +kernel
theorem dX11_ways_112 : decode cX11_ways 112 = .ok (.getfield 23, 3) := by decide +kernel
theorem dX11_ways_115 : decode cX11_ways 115 = .ok (.iload_n 3, 1) := by decide +kernel
theorem dX11_ways_116 : decode cX11_ways 116 = .ok (.iconst 1, 1) := by decide +kernel
theorem dX11_ways_117 : decode cX11_ways 117 = .ok (.iload 4, 2) := by decide +kernel
theorem dX11_ways_119 : decode cX11_ways 119 = .ok (.ishl, 1) := by decide +kernel
theorem dX11_ways_120 : decode cX11_ways 120 = .ok (.ior, 1) := by decide +kernel
theorem dX11_ways_121 : decode cX11_ways 121 = .ok (.iaload, 1) := by decide +kernel
theorem dX11_ways_122 : decode cX11_ways 122 = .ok (.ldc 95, 2) := by decide +kernel
theorem dX11_ways_124 : decode cX11_ways 124 = .ok (.if_icmp .ne 6, 3) := by decide +kernel
theorem dX11_ways_127 : decode cX11_ways 127 = .ok (.goto 66, 3) := by decide +kernel
theorem dX11_ways_130 : decode cX11_ways 130 = .ok (.aload_n 0, 1) := by decide +kernel
theorem dX11_ways_131 : decode cX11_ways 131 = .ok (.getfield 23, 3) := by decide +kernel
theorem dX11_ways_134 : decode cX11_ways 134 = .ok (.iload_n 3, 1) := by decide +kernel
theorem dX11_ways_135 : decode cX11_ways 135 = .ok (.aload_n 0, 1) := by decide +kernel
theorem dX11_ways_136 : decode cX11_ways 136 = .ok (.getfield 23, 3) := by decide +kernel
theorem dX11_ways_139 : decode cX11_ways 139 = .ok (.iload_n 3, 1) := by decide +kernel
theorem dX11_ways_140 : decode cX11_ways 140 = .ok (.iaload, 1) := by decide +kernel
theorem dX11_ways_141 : decode cX11_ways 141 = .ok (.aload_n 0, 1) := by decide +kernel
theorem dX11_ways_142 : decode cX11_ways 142 = .ok (.getfield 23, 3) := by decide +kernel
theorem dX11_ways_145 : decode cX11_ways 145 = .ok (.iload_n 3, 1) := by decide +kernel
theorem dX11_ways_146 : decode cX11_ways 146 = .ok (.iconst 1, 1) := by decide +kernel
theorem dX11_ways_147 : decode cX11_ways 147 = .ok (.iload 4, 2) := by decide +kernel
theorem dX11_ways_149 : decode cX11_ways 149 = .ok (.ishl, 1) := by decide +kernel
theorem dX11_ways_150 : decode cX11_ways 150 = .ok (.ior, 1) := by decide +kernel
theorem dX11_ways_151 : decode cX11_ways 151 = .ok (.iaload, 1) := by decide +kernel
theorem dX11_ways_152 : decode cX11_ways 152 = .ok (.iconst 1, 1) := by decide +kernel
theorem dX11_ways_153 : decode cX11_ways 153 = .ok (.iadd, 1) := by decide +kernel
theorem dX11_ways_154 : decode cX11_ways 154 = .ok (.invokestatic 103, 3) := by decide +kernel
theorem dX11_ways_157 : decode cX11_ways 157 = .ok (.iastore, 1) := by decide +kernel
theorem dX11_ways_158 : decode cX11_ways 158 = .ok (.aload_n 0, 1) := by decide +kernel
theorem dX11_ways_159 : decode cX11_ways 159 = .ok (.getfield 26, 3) := by decide +kernel
theorem dX11_ways_162 : decode cX11_ways 162 = .ok (.iload_n 3, 1) := by decide +kernel
theorem dX11_ways_163 : decode cX11_ways 163 = .ok (.aload_n 0, 1) := by decide +kernel
theorem dX11_ways_164 : decode cX11_ways 164 = .ok (.getfield 26, 3) := by decide +kernel
theorem dX11_ways_167 : decode cX11_ways 167 = .ok (.iload_n 3, 1) := by decide +kernel
theorem dX11_ways_168 : decode cX11_ways 168 = .ok (.iaload, 1) := by decide +kernel
theorem dX11_ways_169 : decode cX11_ways 169 = .ok (.aload_n 0, 1) := by decide +kernel
theorem dX11_ways_170 : decode cX11_ways 170 = .ok (.getfield 26, 3) := by decide +kernel
theorem dX11_ways_173 : decode cX11_ways 173 = .ok (.iload_n 3, 1) := by decide +kernel
theorem dX11_ways_174 : decode cX11_ways 174 = .ok (.iconst 1, 1) := by decide +kernel
theorem dX11_ways_175 : decode cX11_ways 175 = .ok (.iload 4, 2) := by decide +kernel
theorem dX11_ways_177 : decode cX11_ways 177 = .ok (.ishl, 1) := by decide +kernel
theorem dX11_ways_178 : decode cX11_ways 178 = .ok (.ior, 1) := by decide +kernel
theorem dX11_ways_179 : decode cX11_ways 179 = .ok (.iaload, 1) := by decide +kernel
theorem dX11_ways_180 : decode cX11_ways 180 = .ok (.aload_n 0, 1) := by decide +kernel
theorem dX11_ways_181 : decode cX11_ways 181 = .ok (.iload_n 1, 1) := by decide +kernel
theorem dX11_ways_182 : decode cX11_ways 182 = .ok (.iload 4, 2) := by decide +kernel
theorem dX11_ways_184 : decode cX11_ways 184 = .ok (.iconst 0, 1) := by decide +kernel
theorem dX11_ways_185 : decode cX11_ways 185 = .ok (.invokevirtual 71, 3) := by decide +kernel
theorem dX11_ways_188 : decode cX11_ways 188 = .ok (.iadd, 1) := by decide +kernel
theorem dX11_ways_189 : decode cX11_ways 189 = .ok (.invokestatic 103, 3) := by decide +kernel
theorem dX11_ways_192 : decode cX11_ways 192 = .ok (.iastore, 1) := by decide +kernel
theorem dX11_ways_193 : decode cX11_ways 193 = .ok (.iinc 4 1, 3) := by decide +kernel
theorem dX11_ways_196 : decode cX11_ways 196 = .ok (.goto (-110), 3) := by decide +kernel
theorem dX11_ways_199 : decode cX11_ways 199 = .ok (.iinc 3 (-1), 3) := by decide +kernel
theorem dX11_ways_202 : decode cX11_ways 202 = .ok (.goto (-181), 3) := by decide +kernel
theorem dX11_ways_205 : decode cX11_ways 205 = .ok (.aload_n 0, 1) := by decide +kernel
theorem dX11_ways_206 : decode cX11_ways 206 = .ok (.iload_n 1, 1) := by decide +kernel
theorem dX11_ways_207 : decode cX11_ways 207 = .ok (.invokevirtual 108, 3) := by decide +kernel
theorem dX11_ways_210 : decode cX11_ways 210 = .ok (.ifCond .eq 21, 3) := by decide +kernel
theorem dX11_ways_213 : decode cX11_ways 213 = .ok (.aload_n 0, 1) := by decide +kernel
theorem dX11_ways_214 : decode cX11_ways 214 = .ok (.getfield 23, 3) := by decide +kernel
theorem dX11_ways_217 : decode cX11_ways 217 = .ok (.aload_n 0, 1) := by decide +kernel
theorem dX11_ways_218 : decode cX11_ways 218 = .ok (.getfield 92, 3) := by decide +kernel
theorem dX11_ways_221 : decode cX11_ways 221 = .ok (.iaload, 1) := by decide +kernel
theorem dX11_ways_222 : decode cX11_ways 222 = .ok (.ldc 95, 2) := by decide +kernel
theorem dX11_ways_224 : decode cX11_ways 224 = .ok (.if_icmp .ge 7, 3) := by decide +kernel
theorem dX11_ways_227 : decode cX11_ways 227 = .ok (.iconst 1, 1) := by decide +kernel
theorem dX11_ways_228 : decode cX11_ways 228 = .ok (.goto 4, 3) := by decide +kernel
theorem dX11_ways_231 : decode cX11_ways 231 = .ok (.iconst 0, 1) := by decide +kernel
theorem dX11_ways_232 : decode cX11_ways 232 = .ok (.ireturn, 1) := by decide +kernel
theorem dX11_isPossible_0 : decode cX11_isPossible 0 = .ok (.aload_n 0, 1) := by decide +kernel
theorem dX11_isPossible_1 : decode cX11_isPossible 1 = .ok (.invokevirtual 112, 3) := by decide +kernel
theorem dX11_isPossible_4 : decode cX11_isPossible 4 = .ok (.aload_n 0, 1) := by decide +kernel
theorem dX11_isPossible_5 : decode cX11_isPossible 5 = .ok (.iload_n 1, 1) := by decide +kernel
theorem dX11_isPossible_6 : decode cX11_isPossible 6 = .ok (.invokevirtual 115, 3) := by decide +kernel
theorem dX11_isPossible_9 : decode cX11_isPossible 9 = .ok (.ireturn, 1) := by decide +kernel
theorem dX11_plans_0 : decode cX11_plans 0 = .ok (.aload_n 0, 1) := by decide +kernel
theorem dX11_plans_1 : decode cX11_plans 1 = .ok (.iconst 0, 1) := by decide +kernel
theorem dX11_plans_2 : decode cX11_plans 2 = .ok (.putfield 118, 3) := by decide +kernel
theorem dX11_plans_5 : decode cX11_plans 5 = .ok (.aload_n 0, 1) := by decide +kernel
theorem dX11_plans_6 : decode cX11_plans 6 = .ok (.getfield 92, 3) := by decide +kernel
theorem dX11_plans_9 : decode cX11_plans 9 = .ok (.istore_n 2, 1) := by decide +kernel
theorem dX11_plans_10 : decode cX11_plans 10 = .ok (.aload_n 0, 1) := by decide +kernel
theorem dX11_plans_11 : decode cX11_plans 11 = .ok (.getfield 23, 3) := by decide +kernel
theorem dX11_plans_14 : decode cX11_plans 14 = .ok (.iload_n 2, 1) := by decide +kernel
theorem dX11_plans_15 : decode cX11_plans 15 = .ok (.iaload, 1) := by decide +kernel
theorem dX11_plans_16 : decode cX11_plans 16 = .ok (.ifCond .le 75, 3) := by decide +kernel
theorem dX11_plans_19 : decode cX11_plans 19 = .ok (.iconst 0, 1) := by decide +kernel
theorem dX11_plans_20 : decode cX11_plans 20 = .ok (.istore_n 3, 1) := by decide +kernel
theorem dX11_plans_21 : decode cX11_plans 21 = .ok (.aload_n 0, 1) := by decide +kernel
theorem dX11_plans_22 : decode cX11_plans 22 = .ok (.iload_n 1, 1) := by decide +kernel
theorem dX11_plans_23 : decode cX11_plans 23 = .ok (.iload_n 3, 1) := by decide +kernel
theorem dX11_plans_24 : decode cX11_plans 24 = .ok (.iload_n 2, 1) := by decide +kernel
theorem dX11_plans_25 : decode cX11_plans 25 = .ok (.aload_n 0, 1) := by decide +kernel
theorem dX11_plans_26 : decode cX11_plans 26 = .ok (.getfield 92, 3) := by decide +kernel
theorem dX11_plans_29 : decode cX11_plans 29 = .ok (.invokevirtual 99, 3) := by decide +kernel
theorem dX11_plans_32 : decode cX11_plans 32 = .ok (.ifCond .eq 24, 3) := by decide +kernel
theorem dX11_plans_35 : decode cX11_plans 35 = .ok (.aload_n 0, 1) := by decide +kernel
theorem dX11_plans_36 : decode cX11_plans 36 = .ok (.getfield 23, 3) := by decide +kernel
theorem dX11_plans_39 : decode cX11_plans 39 = .ok (.iload_n 2, 1) := by decide +kernel
theorem dX11_plans_40 : decode cX11_plans 40 = .ok (.iconst 1, 1) := by decide +kernel
theorem dX11_plans_41 : decode cX11_plans 41 = .ok (.iload_n 3, 1) := by decide +kernel
theorem dX11_plans_42 : decode cX11_plans 42 = .ok (.ishl, 1) := by decide +kernel
theorem dX11_plans_43 : decode cX11_plans 43 = .ok (.ior, 1) := by decide +kernel
theorem dX11_plans_44 : decode cX11_plans 44 = .ok (.iaload, 1) := by decide +kernel
theorem dX11_plans_45 : decode cX11_plans 45 = .ok (.aload_n 0, 1) := by decide +kernel
theorem dX11_plans_46 : decode cX11_plans 46 = .ok (.getfield 23, 3) := by decide +kernel
theorem dX11_plans_49 : decode cX11_plans 49 = .ok (.iload_n 2, 1) := by decide +kernel
theorem dX11_plans_50 : decode cX11_plans 50 = .ok (.iaload, 1) := by decide +kernel
theorem dX11_plans_51 : decode cX11_plans 51 = .ok (.iconst 1, 1) := by decide +kernel
theorem dX11_plans_52 : decode cX11_plans 52 = .ok (.isub, 1) := by decide +kernel
theorem dX11_plans_53 : decode cX11_plans 53 = .ok (.if_icmp .eq 9, 3) := by decide +kernel
theorem dX11_plans_56 : decode cX11_plans 56 = .ok (.iinc 3 1, 3) := by decide +kernel
theorem dX11_plans_59 : decode cX11_plans 59 = .ok (.goto (-38), 3) := by decide +kernel
theorem dX11_plans_62 : decode cX11_plans 62 = .ok (.aload_n 0, 1) := by decide +kernel
theorem dX11_plans_63 : decode cX11_plans 63 = .ok (.getfield 29, 3) := by decide +kernel
theorem dX11_plans_66 : decode cX11_plans 66 = .ok (.aload_n 0, 1) := by decide +kernel
theorem dX11_plans_67 : decode cX11_plans 67 = .ok (.getfield 118, 3) := by decide +kernel
theorem dX11_plans_70 : decode cX11_plans 70 = .ok (.iload_n 3, 1) := by decide +kernel
theorem dX11_plans_71 : decode cX11_plans 71 = .ok (.iastore, 1) := by decide +kernel
theorem dX11_plans_72 : decode cX11_plans 72 = .ok (.aload_n 0, 1) := by decide +kernel
theorem dX11_plans_73 : decode cX11_plans 73 = .ok (.dup, 1) := by decide +kernel
theorem dX11_plans_74 : decode cX11_plans 74 = .ok (.getfield 118, 3) := by decide +kernel
theorem dX11_plans_77 : decode cX11_plans 77 = .ok (.iconst 1, 1) := by decide +kernel
theorem dX11_plans_78 : decode cX11_plans 78 = .ok (.iadd, 1) := by decide +kernel
theorem dX11_plans_79 : decode cX11_plans 79 = .ok (.putfield 118, 3) := by decide +kernel
theorem dX11_plans_82 : decode cX11_plans 82 = .ok (.iload_n 2, 1) := by decide +kernel
theorem dX11_plans_83 : decode cX11_plans 83 = .ok (.iconst 1, 1) := by decide +kernel
theorem dX11_plans_84 : decode cX11_plans 84 = .ok (.iload_n 3, 1) := by decide +kernel
theorem dX11_plans_85 : decode cX11_plans 85 = .ok (.ishl, 1) := by decide +kernel
theorem dX11_plans_86 : decode cX11_plans 86 = .ok (.ior, 1) := by decide +kernel
theorem dX11_plans_87 : decode cX11_plans 87 = .ok (.istore_n 2, 1) := by decide +kernel
theorem dX11_plans_88 : decode cX11_plans 88 = .ok (.goto (-78), 3) := by decide +kernel
theorem dX11_plans_91 : decode cX11_plans 91 = .ok (.return_, 1) := by decide +kernel
theorem dX11_hasPlan_0 : decode cX11_hasPlan 0 = .ok (.aload_n 0, 1) := by decide +kernel
theorem dX11_hasPlan_1 : decode cX11_hasPlan 1 = .ok (.iload_n 1, 1) := by decide +kernel
theorem dX11_hasPlan_2 : decode cX11_hasPlan 2 = .ok (.invokevirtual 121, 3) := by decide +kernel
theorem dX11_hasPlan_5 : decode cX11_hasPlan 5 = .ok (.ifCond .ne 5, 3) := by decide +kernel
theorem dX11_hasPlan_8 : decode cX11_hasPlan 8 = .ok (.iconst 0, 1) := by decide +kernel
theorem dX11_hasPlan_9 : decode cX11_hasPlan 9 = .ok (.ireturn, 1) := by decide +kernel
theorem dX11_hasPlan_10 : decode cX11_hasPlan 10 = .ok (.aload_n 0, 1) := by decide +kernel
theorem dX11_hasPlan_11 : decode cX11_hasPlan 11 = .ok (.iload_n 1, 1) := by decide +kernel
theorem dX11_hasPlan_12 : decode cX11_hasPlan 12 = .ok (.invokevirtual 124, 3) := by decide +kernel
theorem dX11_hasPlan_15 : decode cX11_hasPlan 15 = .ok (.iconst 1, 1) := by decide +kernel
theorem dX11_hasPlan_16 : decode cX11_hasPlan 16 = .ok (.ireturn, 1) := by decide +kernel
theorem dX11_planRisk_0 : decode cX11_planRisk 0 = .ok (.iconst 0, 1) := by decide +kernel
theorem dX11_planRisk_1 : decode cX11_planRisk 1 = .ok (.istore_n 2, 1) := by decide +kernel
theorem dX11_planRisk_2 : decode cX11_planRisk 2 = .ok (.iconst 0, 1) := by decide +kernel
theorem dX11_planRisk_3 : decode cX11_planRisk 3 = .ok (.istore_n 3, 1) := by decide +kernel
theorem dX11_planRisk_4 : decode cX11_planRisk 4 = .ok (.iload_n 3, 1) := by decide +kernel
theorem dX11_planRisk_5 : decode cX11_planRisk 5 = .ok (.aload_n 0, 1) := by decide +kernel
theorem dX11_planRisk_6 : decode cX11_planRisk 6 = .ok (.getfield 118, 3) := by decide +kernel
theorem dX11_planRisk_9 : decode cX11_planRisk 9 = .ok (.if_icmp .ge 24, 3) := by decide +kernel
theorem dX11_planRisk_12 : decode cX11_planRisk 12 = .ok (.iload_n 2, 1) := by decide +kernel
theorem dX11_planRisk_13 : decode cX11_planRisk 13 = .ok (.aload_n 0, 1) := by decide +kernel
theorem dX11_planRisk_14 : decode cX11_planRisk 14 = .ok (.iload_n 1, 1) := by decide +kernel
theorem dX11_planRisk_15 : decode cX11_planRisk 15 = .ok (.aload_n 0, 1) := by decide +kernel
theorem dX11_planRisk_16 : decode cX11_planRisk 16 = .ok (.getfield 29, 3) := by decide +kernel
theorem dX11_planRisk_19 : decode cX11_planRisk 19 = .ok (.iload_n 3, 1) := by decide +kernel
theorem dX11_planRisk_20 : decode cX11_planRisk 20 = .ok (.iaload, 1) := by decide +kernel
theorem dX11_planRisk_21 : decode cX11_planRisk 21 = .ok (.iconst 0, 1) := by decide +kernel
theorem dX11_planRisk_22 : decode cX11_planRisk 22 = .ok (.invokevirtual 71, 3) := by decide +kernel
theorem dX11_planRisk_25 : decode cX11_planRisk 25 = .ok (.iadd, 1) := by decide +kernel
theorem dX11_planRisk_26 : decode cX11_planRisk 26 = .ok (.istore_n 2, 1) := by decide +kernel
theorem dX11_planRisk_27 : decode cX11_planRisk 27 = .ok (.iinc 3 1, 3) := by decide +kernel
theorem dX11_planRisk_30 : decode cX11_planRisk 30 = .ok (.goto (-26), 3) := by decide +kernel
theorem dX11_planRisk_33 : decode cX11_planRisk 33 = .ok (.iload_n 2, 1) := by decide +kernel
theorem dX11_planRisk_34 : decode cX11_planRisk 34 = .ok (.ireturn, 1) := by decide +kernel
theorem dX11_factOf_0 : decode cX11_factOf 0 = .ok (.iload_n 2, 1) := by decide +kernel
theorem dX11_factOf_1 : decode cX11_factOf 1 = .ok (.tableswitch 91 0 4 #[35, 51, 66, 76, 83], 35) := by decide +kernel
theorem dX11_factOf_36 : decode cX11_factOf 36 = .ok (.iload_n 3, 1) := by decide +kernel
theorem dX11_factOf_37 : decode cX11_factOf 37 = .ok (.ifCond .eq 11, 3) := by decide +kernel
theorem dX11_factOf_40 : decode cX11_factOf 40 = .ok (.aload_n 0, 1) := by decide +kernel
theorem dX11_factOf_41 : decode cX11_factOf 41 = .ok (.getfield 118, 3) := by decide +kernel
theorem dX11_factOf_44 : decode cX11_factOf 44 = .ok (.i2l, 1) := by decide +kernel
theorem dX11_factOf_45 : decode cX11_factOf 45 = .ok (.goto 6, 3) := by decide +kernel
theorem dX11_factOf_48 : decode cX11_factOf 48 = .ok (.ldc2_w 128, 3) := by decide +kernel
theorem dX11_factOf_51 : decode cX11_factOf 51 = .ok (.lreturn, 1) := by decide +kernel
theorem dX11_factOf_52 : decode cX11_factOf 52 = .ok (.iload_n 3, 1) := by decide +kernel
theorem dX11_factOf_53 : decode cX11_factOf 53 = .ok (.ifCond .eq 12, 3) := by decide +kernel
theorem dX11_factOf_56 : decode cX11_factOf 56 = .ok (.aload_n 0, 1) := by decide +kernel
theorem dX11_factOf_57 : decode cX11_factOf 57 = .ok (.iload_n 1, 1) := by decide +kernel
theorem dX11_factOf_58 : decode cX11_factOf 58 = .ok (.invokevirtual 130, 3) := by decide +kernel
theorem dX11_factOf_61 : decode cX11_factOf 61 = .ok (.i2l, 1) := by decide +kernel
theorem dX11_factOf_62 : decode cX11_factOf 62 = .ok (.goto 4, 3) := by decide +kernel
theorem dX11_factOf_65 : decode cX11_factOf 65 = .ok (.lconst 0, 1) := by decide +kernel
theorem dX11_factOf_66 : decode cX11_factOf 66 = .ok (.lreturn, 1) := by decide +kernel
theorem dX11_factOf_67 : decode cX11_factOf 67 = .ok (.aload_n 0, 1) := by decide +kernel
theorem dX11_factOf_68 : decode cX11_factOf 68 = .ok (.iload_n 1, 1) := by decide +kernel
theorem dX11_factOf_69 : decode cX11_factOf 69 = .ok (.invokevirtual 89, 3) := by decide +kernel
theorem dX11_factOf_72 : decode cX11_factOf 72 = .ok (.invokestatic 133, 3) := by decide +kernel
theorem dX11_factOf_75 : decode cX11_factOf 75 = .ok (.i2l, 1) := by decide +kernel
theorem dX11_factOf_76 : decode cX11_factOf 76 = .ok (.lreturn, 1) := by decide +kernel
theorem dX11_factOf_77 : decode cX11_factOf 77 = .ok (.aload_n 0, 1) := by decide +kernel
theorem dX11_factOf_78 : decode cX11_factOf 78 = .ok (.iload_n 1, 1) := by decide +kernel
theorem dX11_factOf_79 : decode cX11_factOf 79 = .ok (.invokevirtual 138, 3) := by decide +kernel
theorem dX11_factOf_82 : decode cX11_factOf 82 = .ok (.i2l, 1) := by decide +kernel
theorem dX11_factOf_83 : decode cX11_factOf 83 = .ok (.lreturn, 1) := by decide +kernel
theorem dX11_factOf_84 : decode cX11_factOf 84 = .ok (.aload_n 0, 1) := by decide +kernel
theorem dX11_factOf_85 : decode cX11_factOf 85 = .ok (.iload_n 1, 1) := by decide +kernel
theorem dX11_factOf_86 : decode cX11_factOf 86 = .ok (.iconst 3, 1) := by decide +kernel
theorem dX11_factOf_87 : decode cX11_factOf 87 = .ok (.invokevirtual 68, 3) := by decide +kernel
theorem dX11_factOf_90 : decode cX11_factOf 90 = .ok (.i2l, 1) := by decide +kernel
theorem dX11_factOf_91 : decode cX11_factOf 91 = .ok (.lreturn, 1) := by decide +kernel
theorem dX11_factOf_92 : decode cX11_factOf 92 = .ok (.iload_n 1, 1) := by decide +kernel
theorem dX11_factOf_93 : decode cX11_factOf 93 = .ok (.i2l, 1) := by decide +kernel
theorem dX11_factOf_94 : decode cX11_factOf 94 = .ok (.lreturn, 1) := by decide +kernel
theorem dX11_worthOf_0 : decode cX11_worthOf 0 = .ok (.aload_n 0, 1) := by decide +kernel
theorem dX11_worthOf_1 : decode cX11_worthOf 1 = .ok (.iconst 3, 1) := by decide +kernel
theorem dX11_worthOf_2 : decode cX11_worthOf 2 = .ok (.invokevirtual 53, 3) := by decide +kernel
theorem dX11_worthOf_5 : decode cX11_worthOf 5 = .ok (.ifCond .ne 10, 3) := by decide +kernel
theorem dX11_worthOf_8 : decode cX11_worthOf 8 = .ok (.aload_n 0, 1) := by decide +kernel
theorem dX11_worthOf_9 : decode cX11_worthOf 9 = .ok (.iload_n 1, 1) := by decide +kernel
theorem dX11_worthOf_10 : decode cX11_worthOf 10 = .ok (.iconst 3, 1) := by decide +kernel
theorem dX11_worthOf_11 : decode cX11_worthOf 11 = .ok (.invokevirtual 68, 3) := by decide +kernel
theorem dX11_worthOf_14 : decode cX11_worthOf 14 = .ok (.ireturn, 1) := by decide +kernel
theorem dX11_worthOf_15 : decode cX11_worthOf 15 = .ok (.aload_n 0, 1) := by decide +kernel
theorem dX11_worthOf_16 : decode cX11_worthOf 16 = .ok (.iload_n 1, 1) := by decide +kernel
theorem dX11_worthOf_17 : decode cX11_worthOf 17 = .ok (.invokevirtual 141, 3) := by decide +kernel
theorem dX11_worthOf_20 : decode cX11_worthOf 20 = .ok (.istore_n 2, 1) := by decide +kernel
theorem dX11_worthOf_21 : decode cX11_worthOf 21 = .ok (.iconst 0, 1) := by decide +kernel
theorem dX11_worthOf_22 : decode cX11_worthOf 22 = .ok (.istore_n 3, 1) := by decide +kernel
theorem dX11_worthOf_23 : decode cX11_worthOf 23 = .ok (.iconst 0, 1) := by decide +kernel
theorem dX11_worthOf_24 : decode cX11_worthOf 24 = .ok (.istore 4, 2) := by decide +kernel
theorem dX11_worthOf_26 : decode cX11_worthOf 26 = .ok (.iload 4, 2) := by decide +kernel
theorem dX11_worthOf_28 : decode cX11_worthOf 28 = .ok (.aload_n 0, 1) := by decide +kernel
theorem dX11_worthOf_29 : decode cX11_worthOf 29 = .ok (.iconst 3, 1) := by decide +kernel
theorem dX11_worthOf_30 : decode cX11_worthOf 30 = .ok (.invokevirtual 53, 3) := by decide +kernel
theorem dX11_worthOf_33 : decode cX11_worthOf 33 = .ok (.if_icmp .ge 197, 3) := by decide +kernel
theorem dX11_worthOf_36 : decode cX11_worthOf 36 = .ok (.aload_n 0, 1) := by decide +kernel
theorem dX11_worthOf_37 : decode cX11_worthOf 37 = .ok (.sipush 1169, 3) := by decide +kernel
theorem dX11_worthOf_40 : decode cX11_worthOf 40 = .ok (.iconst 2, 1) := by decide +kernel
theorem dX11_worthOf_41 : decode cX11_worthOf 41 = .ok (.iload 4, 2) := by decide +kernel
theorem dX11_worthOf_43 : decode cX11_worthOf 43 = .ok (.imul, 1) := by decide +kernel
theorem dX11_worthOf_44 : decode cX11_worthOf 44 = .ok (.iadd, 1) := by decide +kernel
theorem dX11_worthOf_45 : decode cX11_worthOf 45 = .ok (.invokevirtual 53, 3) := by decide +kernel
theorem dX11_worthOf_48 : decode cX11_worthOf 48 = .ok (.istore 5, 2) := by decide +kernel
theorem dX11_worthOf_50 : decode cX11_worthOf 50 = .ok (.aload_n 0, 1) := by decide +kernel
theorem dX11_worthOf_51 : decode cX11_worthOf 51 = .ok (.sipush 1169, 3) := by decide +kernel
theorem dX11_worthOf_54 : decode cX11_worthOf 54 = .ok (.iconst 2, 1) := by decide +kernel
theorem dX11_worthOf_55 : decode cX11_worthOf 55 = .ok (.iload 4, 2) := by decide +kernel
theorem dX11_worthOf_57 : decode cX11_worthOf 57 = .ok (.imul, 1) := by decide +kernel
theorem dX11_worthOf_58 : decode cX11_worthOf 58 = .ok (.iadd, 1) := by decide +kernel
theorem dX11_worthOf_59 : decode cX11_worthOf 59 = .ok (.iconst 1, 1) := by decide +kernel
theorem dX11_worthOf_60 : decode cX11_worthOf 60 = .ok (.iadd, 1) := by decide +kernel
theorem dX11_worthOf_61 : decode cX11_worthOf 61 = .ok (.invokevirtual 53, 3) := by decide +kernel
theorem dX11_worthOf_64 : decode cX11_worthOf 64 = .ok (.istore 6, 2) := by decide +kernel
theorem dX11_worthOf_66 : decode cX11_worthOf 66 = .ok (.iload 5, 2) := by decide +kernel
theorem dX11_worthOf_68 : decode cX11_worthOf 68 = .ok (.iconst 1, 1) := by decide +kernel
theorem dX11_worthOf_69 : decode cX11_worthOf 69 = .ok (.if_icmp .gt 34, 3) := by decide +kernel
theorem dX11_worthOf_72 : decode cX11_worthOf 72 = .ok (.aload_n 0, 1) := by decide +kernel
theorem dX11_worthOf_73 : decode cX11_worthOf 73 = .ok (.getfield 32, 3) := by decide +kernel
theorem dX11_worthOf_76 : decode cX11_worthOf 76 = .ok (.iload_n 3, 1) := by decide +kernel
theorem dX11_worthOf_77 : decode cX11_worthOf 77 = .ok (.iload 5, 2) := by decide +kernel
theorem dX11_worthOf_79 : decode cX11_worthOf 79 = .ok (.ifCond .ne 9, 3) := by decide +kernel
theorem dX11_worthOf_82 : decode cX11_worthOf 82 = .ok (.iload 6, 2) := by decide +kernel
theorem dX11_worthOf_84 : decode cX11_worthOf 84 = .ok (.i2l, 1) := by decide +kernel
theorem dX11_worthOf_85 : decode cX11_worthOf 85 = .ok (.goto 11, 3) := by decide +kernel
theorem dX11_worthOf_88 : decode cX11_worthOf 88 = .ok (.aload_n 0, 1) := by decide +kernel
theorem dX11_worthOf_89 : decode cX11_worthOf 89 = .ok (.iload_n 1, 1) := by decide +kernel
theorem dX11_worthOf_90 : decode cX11_worthOf 90 = .ok (.iload 6, 2) := by decide +kernel
theorem dX11_worthOf_92 : decode cX11_worthOf 92 = .ok (.iload_n 2, 1) := by decide +kernel
theorem dX11_worthOf_93 : decode cX11_worthOf 93 = .ok (.invokevirtual 144, 3) := by decide +kernel
theorem dX11_worthOf_96 : decode cX11_worthOf 96 = .ok (.lastore, 1) := by decide +kernel
theorem dX11_worthOf_97 : decode cX11_worthOf 97 = .ok (.iinc 3 1, 3) := by decide +kernel
theorem dX11_worthOf_100 : decode cX11_worthOf 100 = .ok (.goto 124, 3) := by decide +kernel
theorem dX11_worthOf_103 : decode cX11_worthOf 103 = .ok (.iinc 3 (-1), 3) := by decide +kernel
theorem dX11_worthOf_106 : decode cX11_worthOf 106 = .ok (.aload_n 0, 1) := by decide +kernel
theorem dX11_worthOf_107 : decode cX11_worthOf 107 = .ok (.getfield 32, 3) := by decide +kernel
theorem dX11_worthOf_110 : decode cX11_worthOf 110 = .ok (.iload_n 3, 1) := by decide +kernel
theorem dX11_worthOf_111 : decode cX11_worthOf 111 = .ok (.laload, 1) := by decide +kernel
theorem dX11_worthOf_112 : decode cX11_worthOf 112 = .ok (.lstore 7, 2) := by decide +kernel
theorem dX11_worthOf_114 : decode cX11_worthOf 114 = .ok (.aload_n 0, 1) := by decide +kernel
theorem dX11_worthOf_115 : decode cX11_worthOf 115 = .ok (.getfield 32, 3) := by decide +kernel
theorem dX11_worthOf_118 : decode cX11_worthOf 118 = .ok (.iload_n 3, 1) := by decide +kernel
theorem dX11_worthOf_119 : decode cX11_worthOf 119 = .ok (.iconst 1, 1) := by decide +kernel
theorem dX11_worthOf_120 : decode cX11_worthOf 120 = .ok (.isub, 1) := by decide +kernel
theorem dX11_worthOf_121 : decode cX11_worthOf 121 = .ok (.laload, 1) := by decide +kernel
theorem dX11_worthOf_122 : decode cX11_worthOf 122 = .ok (.lstore 9, 2) := by decide +kernel
theorem dX11_worthOf_124 : decode cX11_worthOf 124 = .ok (.iload 5, 2) := by decide +kernel
theorem dX11_worthOf_126 : decode cX11_worthOf 126 = .ok (.iconst 2, 1) := by decide +kernel
theorem dX11_worthOf_127 : decode cX11_worthOf 127 = .ok (.if_icmp .ne 11, 3) := by decide +kernel
theorem dX11_worthOf_130 : decode cX11_worthOf 130 = .ok (.lload 9, 2) := by decide +kernel
theorem dX11_worthOf_132 : decode cX11_worthOf 132 = .ok (.lload 7, 2) := by decide +kernel
theorem dX11_worthOf_134 : decode cX11_worthOf 134 = .ok (.ladd, 1) := by decide +kernel
theorem dX11_worthOf_135 : decode cX11_worthOf 135 = .ok (.goto 47, 3) := by decide +kernel
theorem dX11_worthOf_138 : decode cX11_worthOf 138 = .ok (.iload 5, 2) := by decide +kernel
theorem dX11_worthOf_140 : decode cX11_worthOf 140 = .ok (.iconst 3, 1) := by decide +kernel
theorem dX11_worthOf_141 : decode cX11_worthOf 141 = .ok (.if_icmp .ne 11, 3) := by decide +kernel
theorem dX11_worthOf_144 : decode cX11_worthOf 144 = .ok (.lload 9, 2) := by decide +kernel
theorem dX11_worthOf_146 : decode cX11_worthOf 146 = .ok (.lload 7, 2) := by decide +kernel
theorem dX11_worthOf_148 : decode cX11_worthOf 148 = .ok (.lsub, 1) := by decide +kernel
theorem dX11_worthOf_149 : decode cX11_worthOf 149 = .ok (.goto 33, 3) := by decide +kernel
theorem dX11_worthOf_152 : decode cX11_worthOf 152 = .ok (.iload 5, 2) := by decide +kernel
theorem dX11_worthOf_154 : decode cX11_worthOf 154 = .ok (.iconst 4, 1) := by decide +kernel
theorem dX11_worthOf_155 : decode cX11_worthOf 155 = .ok (.if_icmp .ne 11, 3) := by decide +kernel
theorem dX11_worthOf_158 : decode cX11_worthOf 158 = .ok (.lload 9, 2) := by decide +kernel
theorem dX11_worthOf_160 : decode cX11_worthOf 160 = .ok (.lload 7, 2) := by decide +kernel
theorem dX11_worthOf_162 : decode cX11_worthOf 162 = .ok (.lmul, 1) := by decide +kernel
theorem dX11_worthOf_163 : decode cX11_worthOf 163 = .ok (.goto 19, 3) := by decide +kernel
theorem dX11_worthOf_166 : decode cX11_worthOf 166 = .ok (.lload 7, 2) := by decide +kernel
theorem dX11_worthOf_168 : decode cX11_worthOf 168 = .ok (.lconst 0, 1) := by decide +kernel
theorem dX11_worthOf_169 : decode cX11_worthOf 169 = .ok (.lcmp, 1) := by decide +kernel
theorem dX11_worthOf_170 : decode cX11_worthOf 170 = .ok (.ifCond .ne 7, 3) := by decide +kernel
theorem dX11_worthOf_173 : decode cX11_worthOf 173 = .ok (.lconst 0, 1) := by decide +kernel
theorem dX11_worthOf_174 : decode cX11_worthOf 174 = .ok (.goto 8, 3) := by decide +kernel
theorem dX11_worthOf_177 : decode cX11_worthOf 177 = .ok (.lload 9, 2) := by decide +kernel
theorem dX11_worthOf_179 : decode cX11_worthOf 179 = .ok (.lload 7, 2) := by decide +kernel
theorem dX11_worthOf_181 : decode cX11_worthOf 181 = .ok (.ldiv, 1) := by decide +kernel
theorem dX11_worthOf_182 : decode cX11_worthOf 182 = .ok (.lstore 11, 2) := by decide +kernel
theorem dX11_worthOf_184 : decode cX11_worthOf 184 = .ok (.aload_n 0, 1) := by decide +kernel
theorem dX11_worthOf_185 : decode cX11_worthOf 185 = .ok (.getfield 32, 3) := by decide +kernel
theorem dX11_worthOf_188 : decode cX11_worthOf 188 = .ok (.iload_n 3, 1) := by decide +kernel
theorem dX11_worthOf_189 : decode cX11_worthOf 189 = .ok (.iconst 1, 1) := by decide +kernel
theorem dX11_worthOf_190 : decode cX11_worthOf 190 = .ok (.isub, 1) := by decide +kernel
theorem dX11_worthOf_191 : decode cX11_worthOf 191 = .ok (.lload 11, 2) := by decide +kernel
theorem dX11_worthOf_193 : decode cX11_worthOf 193 = .ok (.ldc2_w 148, 3) := by decide +kernel
theorem dX11_worthOf_196 : decode cX11_worthOf 196 = .ok (.lcmp, 1) := by decide +kernel
theorem dX11_worthOf_197 : decode cX11_worthOf 197 = .ok (.ifCond .le 9, 3) := by decide +kernel
theorem dX11_worthOf_200 : decode cX11_worthOf 200 = .ok (.ldc2_w 148, 3) := by decide +kernel
theorem dX11_worthOf_203 : decode cX11_worthOf 203 = .ok (.goto 20, 3) := by decide +kernel
theorem dX11_worthOf_206 : decode cX11_worthOf 206 = .ok (.lload 11, 2) := by decide +kernel
theorem dX11_worthOf_208 : decode cX11_worthOf 208 = .ok (.ldc2_w 150, 3) := by decide +kernel
theorem dX11_worthOf_211 : decode cX11_worthOf 211 = .ok (.lcmp, 1) := by decide +kernel
theorem dX11_worthOf_212 : decode cX11_worthOf 212 = .ok (.ifCond .ge 9, 3) := by decide +kernel
theorem dX11_worthOf_215 : decode cX11_worthOf 215 = .ok (.ldc2_w 150, 3) := by decide +kernel
theorem dX11_worthOf_218 : decode cX11_worthOf 218 = .ok (.goto 5, 3) := by decide +kernel
theorem dX11_worthOf_221 : decode cX11_worthOf 221 = .ok (.lload 11, 2) := by decide +kernel
theorem dX11_worthOf_223 : decode cX11_worthOf 223 = .ok (.lastore, 1) := by decide +kernel
theorem dX11_worthOf_224 : decode cX11_worthOf 224 = .ok (.iinc 4 1, 3) := by decide +kernel
theorem dX11_worthOf_227 : decode cX11_worthOf 227 = .ok (.goto (-201), 3) := by decide +kernel
theorem dX11_worthOf_230 : decode cX11_worthOf 230 = .ok (.aload_n 0, 1) := by decide +kernel
theorem dX11_worthOf_231 : decode cX11_worthOf 231 = .ok (.getfield 32, 3) := by decide +kernel
theorem dX11_worthOf_234 : decode cX11_worthOf 234 = .ok (.iconst 0, 1) := by decide +kernel
theorem dX11_worthOf_235 : decode cX11_worthOf 235 = .ok (.laload, 1) := by decide +kernel
theorem dX11_worthOf_236 : decode cX11_worthOf 236 = .ok (.l2i, 1) := by decide +kernel
theorem dX11_worthOf_237 : decode cX11_worthOf 237 = .ok (.ireturn, 1) := by decide +kernel
theorem dX11_append_0 : decode cX11_append 0 = .ok (.aload_n 0, 1) := by decide +kernel
theorem dX11_append_1 : decode cX11_append 1 = .ok (.iconst 0, 1) := by decide +kernel
theorem dX11_append_2 : decode cX11_append 2 = .ok (.putfield 47, 3) := by decide +kernel
theorem dX11_append_5 : decode cX11_append 5 = .ok (.aload_n 0, 1) := by decide +kernel
theorem dX11_append_6 : decode cX11_append 6 = .ok (.getfield 152, 3) := by decide +kernel
theorem dX11_append_9 : decode cX11_append 9 = .ok (.bipush 20, 2) := by decide +kernel
theorem dX11_append_11 : decode cX11_append 11 = .ok (.iadd, 1) := by decide +kernel
theorem dX11_append_12 : decode cX11_append 12 = .ok (.sipush 800, 3) := by decide +kernel
theorem dX11_append_15 : decode cX11_append 15 = .ok (.if_icmp .le 5, 3) := by decide +kernel
theorem dX11_append_18 : decode cX11_append 18 = .ok (.iconst (-1), 1) := by decide +kernel
theorem dX11_append_19 : decode cX11_append 19 = .ok (.ireturn, 1) := by decide +kernel
theorem dX11_append_20 : decode cX11_append 20 = .ok (.aload_n 0, 1) := by decide +kernel
theorem dX11_append_21 : decode cX11_append 21 = .ok (.iload_n 1, 1) := by decide +kernel
theorem dX11_append_22 : decode cX11_append 22 = .ok (.invokevirtual 155, 3) := by decide +kernel
theorem dX11_append_25 : decode cX11_append 25 = .ok (.aload_n 0, 1) := by decide +kernel
theorem dX11_append_26 : decode cX11_append 26 = .ok (.iload_n 2, 1) := by decide +kernel
theorem dX11_append_27 : decode cX11_append 27 = .ok (.invokevirtual 155, 3) := by decide +kernel
theorem dX11_append_30 : decode cX11_append 30 = .ok (.aload_n 0, 1) := by decide +kernel
theorem dX11_append_31 : decode cX11_append 31 = .ok (.iload_n 3, 1) := by decide +kernel
theorem dX11_append_32 : decode cX11_append 32 = .ok (.invokevirtual 155, 3) := by decide +kernel
theorem dX11_append_35 : decode cX11_append 35 = .ok (.aload_n 0, 1) := by decide +kernel
theorem dX11_append_36 : decode cX11_append 36 = .ok (.iload 4, 2) := by decide +kernel
theorem dX11_append_38 : decode cX11_append 38 = .ok (.invokevirtual 155, 3) := by decide +kernel
theorem dX11_append_41 : decode cX11_append 41 = .ok (.aload_n 0, 1) := by decide +kernel
theorem dX11_append_42 : decode cX11_append 42 = .ok (.iload 5, 2) := by decide +kernel
theorem dX11_append_44 : decode cX11_append 44 = .ok (.invokevirtual 155, 3) := by decide +kernel
theorem dX11_append_47 : decode cX11_append 47 = .ok (.aload_n 0, 1) := by decide +kernel
theorem dX11_append_48 : decode cX11_append 48 = .ok (.getfield 152, 3) := by decide +kernel
theorem dX11_append_51 : decode cX11_append 51 = .ok (.ireturn, 1) := by decide +kernel
theorem dX11_four_0 : decode cX11_four 0 = .ok (.bipush 24, 2) := by decide +kernel
theorem dX11_four_2 : decode cX11_four 2 = .ok (.istore_n 2, 1) := by decide +kernel
theorem dX11_four_3 : decode cX11_four 3 = .ok (.iload_n 2, 1) := by decide +kernel
theorem dX11_four_4 : decode cX11_four 4 = .ok (.ifCond .lt 35, 3) := by decide +kernel
theorem dX11_four_7 : decode cX11_four 7 = .ok (.aload_n 0, 1) := by decide +kernel
theorem dX11_four_8 : decode cX11_four 8 = .ok (.getfield 36, 3) := by decide +kernel
theorem dX11_four_11 : decode cX11_four 11 = .ok (.aload_n 0, 1) := by decide +kernel
theorem dX11_four_12 : decode cX11_four 12 = .ok (.getfield 152, 3) := by decide +kernel
theorem dX11_four_15 : decode cX11_four 15 = .ok (.iload_n 1, 1) := by decide +kernel
theorem dX11_four_16 : decode cX11_four 16 = .ok (.iload_n 2, 1) := by decide +kernel
theorem dX11_four_17 : decode cX11_four 17 = .ok (.ishr, 1) := by decide +kernel
theorem dX11_four_18 : decode cX11_four 18 = .ok (.sipush 255, 3) := by decide +kernel
theorem dX11_four_21 : decode cX11_four 21 = .ok (.iand, 1) := by decide +kernel
theorem dX11_four_22 : decode cX11_four 22 = .ok (.iastore, 1) := by decide +kernel
theorem dX11_four_23 : decode cX11_four 23 = .ok (.aload_n 0, 1) := by decide +kernel
theorem dX11_four_24 : decode cX11_four 24 = .ok (.dup, 1) := by decide +kernel
theorem dX11_four_25 : decode cX11_four 25 = .ok (.getfield 152, 3) := by decide +kernel
theorem dX11_four_28 : decode cX11_four 28 = .ok (.iconst 1, 1) := by decide +kernel
theorem dX11_four_29 : decode cX11_four 29 = .ok (.iadd, 1) := by decide +kernel
theorem dX11_four_30 : decode cX11_four 30 = .ok (.putfield 152, 3) := by decide +kernel
theorem dX11_four_33 : decode cX11_four 33 = .ok (.iinc 2 (-8), 3) := by decide +kernel
theorem dX11_four_36 : decode cX11_four 36 = .ok (.goto (-33), 3) := by decide +kernel
theorem dX11_four_39 : decode cX11_four 39 = .ok (.return_, 1) := by decide +kernel
theorem dX11_errorOffset_0 : decode cX11_errorOffset 0 = .ok (.aload_n 0, 1) := by decide +kernel
theorem dX11_errorOffset_1 : decode cX11_errorOffset 1 = .ok (.iconst 0, 1) := by decide +kernel
theorem dX11_errorOffset_2 : decode cX11_errorOffset 2 = .ok (.putfield 47, 3) := by decide +kernel
theorem dX11_errorOffset_5 : decode cX11_errorOffset 5 = .ok (.aload_n 0, 1) := by decide +kernel
theorem dX11_errorOffset_6 : decode cX11_errorOffset 6 = .ok (.getfield 39, 3) := by decide +kernel
theorem dX11_errorOffset_9 : decode cX11_errorOffset 9 = .ok (.ireturn, 1) := by decide +kernel
theorem dX11_fails_0 : decode cX11_fails 0 = .ok (.aload_n 0, 1) := by decide +kernel
theorem dX11_fails_1 : decode cX11_fails 1 = .ok (.getfield 158, 3) := by decide +kernel
theorem dX11_fails_4 : decode cX11_fails 4 = .ok (.ifCond .eq 5, 3) := by decide +kernel
theorem dX11_fails_7 : decode cX11_fails 7 = .ok (.iconst 0, 1) := by decide +kernel
theorem dX11_fails_8 : decode cX11_fails 8 = .ok (.ireturn, 1) := by decide +kernel
theorem dX11_fails_9 : decode cX11_fails 9 = .ok (.aload_n 0, 1) := by decide +kernel
theorem dX11_fails_10 : decode cX11_fails 10 = .ok (.iload_n 1, 1) := by decide +kernel
theorem dX11_fails_11 : decode cX11_fails 11 = .ok (.putfield 158, 3) := by decide +kernel
theorem dX11_fails_14 : decode cX11_fails 14 = .ok (.aload_n 0, 1) := by decide +kernel
theorem dX11_fails_15 : decode cX11_fails 15 = .ok (.iload_n 2, 1) := by decide +kernel
theorem dX11_fails_16 : decode cX11_fails 16 = .ok (.putfield 39, 3) := by decide +kernel
theorem dX11_fails_19 : decode cX11_fails 19 = .ok (.iconst 0, 1) := by decide +kernel
theorem dX11_fails_20 : decode cX11_fails 20 = .ok (.ireturn, 1) := by decide +kernel
theorem dX11_here_0 : decode cX11_here 0 = .ok (.aload_n 0, 1) := by decide +kernel
theorem dX11_here_1 : decode cX11_here 1 = .ok (.getfield 161, 3) := by decide +kernel
theorem dX11_here_4 : decode cX11_here 4 = .ok (.aload_n 0, 1) := by decide +kernel
theorem dX11_here_5 : decode cX11_here 5 = .ok (.getfield 164, 3) := by decide +kernel
theorem dX11_here_8 : decode cX11_here 8 = .ok (.if_icmp .ge 30, 3) := by decide +kernel
theorem dX11_here_11 : decode cX11_here 11 = .ok (.aload_n 0, 1) := by decide +kernel
theorem dX11_here_12 : decode cX11_here 12 = .ok (.getfield 36, 3) := by decide +kernel
theorem dX11_here_15 : decode cX11_here 15 = .ok (.aload_n 0, 1) := by decide +kernel
theorem dX11_here_16 : decode cX11_here 16 = .ok (.getfield 161, 3) := by decide +kernel
theorem dX11_here_19 : decode cX11_here 19 = .ok (.iaload, 1) := by decide +kernel
theorem dX11_here_20 : decode cX11_here 20 = .ok (.bipush 32, 2) := by decide +kernel
theorem dX11_here_22 : decode cX11_here 22 = .ok (.if_icmp .ne 16, 3) := by decide +kernel
theorem dX11_here_25 : decode cX11_here 25 = .ok (.aload_n 0, 1) := by decide +kernel
theorem dX11_here_26 : decode cX11_here 26 = .ok (.dup, 1) := by decide +kernel
theorem dX11_here_27 : decode cX11_here 27 = .ok (.getfield 161, 3) := by decide +kernel
theorem dX11_here_30 : decode cX11_here 30 = .ok (.iconst 1, 1) := by decide +kernel
theorem dX11_here_31 : decode cX11_here 31 = .ok (.iadd, 1) := by decide +kernel
theorem dX11_here_32 : decode cX11_here 32 = .ok (.putfield 161, 3) := by decide +kernel
theorem dX11_here_35 : decode cX11_here 35 = .ok (.goto (-35), 3) := by decide +kernel
theorem dX11_here_38 : decode cX11_here 38 = .ok (.aload_n 0, 1) := by decide +kernel
theorem dX11_here_39 : decode cX11_here 39 = .ok (.getfield 161, 3) := by decide +kernel
theorem dX11_here_42 : decode cX11_here 42 = .ok (.aload_n 0, 1) := by decide +kernel
theorem dX11_here_43 : decode cX11_here 43 = .ok (.getfield 164, 3) := by decide +kernel
theorem dX11_here_46 : decode cX11_here 46 = .ok (.if_icmp .ge 15, 3) := by decide +kernel
theorem dX11_here_49 : decode cX11_here 49 = .ok (.aload_n 0, 1) := by decide +kernel
theorem dX11_here_50 : decode cX11_here 50 = .ok (.getfield 36, 3) := by decide +kernel
theorem dX11_here_53 : decode cX11_here 53 = .ok (.aload_n 0, 1) := by decide +kernel
theorem dX11_here_54 : decode cX11_here 54 = .ok (.getfield 161, 3) := by decide +kernel
theorem dX11_here_57 : decode cX11_here 57 = .ok (.iaload, 1) := by decide +kernel
theorem dX11_here_58 : decode cX11_here 58 = .ok (.goto 4, 3) := by decide +kernel
theorem dX11_here_61 : decode cX11_here 61 = .ok (.iconst (-1), 1) := by decide +kernel
theorem dX11_here_62 : decode cX11_here 62 = .ok (.ireturn, 1) := by decide +kernel
theorem dX11_isLetter_0 : decode cX11_isLetter 0 = .ok (.iload_n 0, 1) := by decide +kernel
theorem dX11_isLetter_1 : decode cX11_isLetter 1 = .ok (.bipush 97, 2) := by decide +kernel
theorem dX11_isLetter_3 : decode cX11_isLetter 3 = .ok (.if_icmp .lt 13, 3) := by decide +kernel
theorem dX11_isLetter_6 : decode cX11_isLetter 6 = .ok (.iload_n 0, 1) := by decide +kernel
theorem dX11_isLetter_7 : decode cX11_isLetter 7 = .ok (.bipush 122, 2) := by decide +kernel
theorem dX11_isLetter_9 : decode cX11_isLetter 9 = .ok (.if_icmp .gt 7, 3) := by decide +kernel
theorem dX11_isLetter_12 : decode cX11_isLetter 12 = .ok (.iconst 1, 1) := by decide +kernel
theorem dX11_isLetter_13 : decode cX11_isLetter 13 = .ok (.goto 4, 3) := by decide +kernel
theorem dX11_isLetter_16 : decode cX11_isLetter 16 = .ok (.iconst 0, 1) := by decide +kernel
theorem dX11_isLetter_17 : decode cX11_isLetter 17 = .ok (.ireturn, 1) := by decide +kernel
theorem dX11_isDigit_0 : decode cX11_isDigit 0 = .ok (.iload_n 0, 1) := by decide +kernel
theorem dX11_isDigit_1 : decode cX11_isDigit 1 = .ok (.bipush 48, 2) := by decide +kernel
theorem dX11_isDigit_3 : decode cX11_isDigit 3 = .ok (.if_icmp .lt 13, 3) := by decide +kernel
theorem dX11_isDigit_6 : decode cX11_isDigit 6 = .ok (.iload_n 0, 1) := by decide +kernel
theorem dX11_isDigit_7 : decode cX11_isDigit 7 = .ok (.bipush 57, 2) := by decide +kernel
theorem dX11_isDigit_9 : decode cX11_isDigit 9 = .ok (.if_icmp .gt 7, 3) := by decide +kernel
theorem dX11_isDigit_12 : decode cX11_isDigit 12 = .ok (.iconst 1, 1) := by decide +kernel
theorem dX11_isDigit_13 : decode cX11_isDigit 13 = .ok (.goto 4, 3) := by decide +kernel
theorem dX11_isDigit_16 : decode cX11_isDigit 16 = .ok (.iconst 0, 1) := by decide +kernel
theorem dX11_isDigit_17 : decode cX11_isDigit 17 = .ok (.ireturn, 1) := by decide +kernel
theorem dX11_takes_0 : decode cX11_takes 0 = .ok (.aload_n 0, 1) := by decide +kernel
theorem dX11_takes_1 : decode cX11_takes 1 = .ok (.invokevirtual 167, 3) := by decide +kernel
theorem dX11_takes_4 : decode cX11_takes 4 = .ok (.pop, 1) := by decide +kernel
theorem dX11_takes_5 : decode cX11_takes 5 = .ok (.iconst 0, 1) := by decide +kernel
theorem dX11_takes_6 : decode cX11_takes 6 = .ok (.istore_n 2, 1) := by decide +kernel
theorem dX11_takes_7 : decode cX11_takes 7 = .ok (.aload_n 0, 1) := by decide +kernel
theorem dX11_takes_8 : decode cX11_takes 8 = .ok (.getfield 161, 3) := by decide +kernel
theorem dX11_takes_11 : decode cX11_takes 11 = .ok (.iload_n 2, 1) := by decide +kernel
theorem dX11_takes_12 : decode cX11_takes 12 = .ok (.iadd, 1) := by decide +kernel
theorem dX11_takes_13 : decode cX11_takes 13 = .ok (.aload_n 0, 1) := by decide +kernel
theorem dX11_takes_14 : decode cX11_takes 14 = .ok (.getfield 164, 3) := by decide +kernel
theorem dX11_takes_17 : decode cX11_takes 17 = .ok (.if_icmp .ge 26, 3) := by decide +kernel
theorem dX11_takes_20 : decode cX11_takes 20 = .ok (.aload_n 0, 1) := by decide +kernel
theorem dX11_takes_21 : decode cX11_takes 21 = .ok (.getfield 36, 3) := by decide +kernel
theorem dX11_takes_24 : decode cX11_takes 24 = .ok (.aload_n 0, 1) := by decide +kernel
theorem dX11_takes_25 : decode cX11_takes 25 = .ok (.getfield 161, 3) := by decide +kernel
theorem dX11_takes_28 : decode cX11_takes 28 = .ok (.iload_n 2, 1) := by decide +kernel
theorem dX11_takes_29 : decode cX11_takes 29 = .ok (.iadd, 1) := by decide +kernel
theorem dX11_takes_30 : decode cX11_takes 30 = .ok (.iaload, 1) := by decide +kernel
theorem dX11_takes_31 : decode cX11_takes 31 = .ok (.invokestatic 171, 3) := by decide +kernel
theorem dX11_takes_34 : decode cX11_takes 34 = .ok (.ifCond .eq 9, 3) := by decide +kernel
theorem dX11_takes_37 : decode cX11_takes 37 = .ok (.iinc 2 1, 3) := by decide +kernel
theorem dX11_takes_40 : decode cX11_takes 40 = .ok (.goto (-33), 3) := by decide +kernel
theorem dX11_takes_43 : decode cX11_takes 43 = .ok (.iload_n 2, 1) := by decide +kernel
theorem dX11_takes_44 : decode cX11_takes 44 = .ok (.aload_n 1, 1) := by decide +kernel
theorem dX11_takes_45 : decode cX11_takes 45 = .ok (.invokevirtual 174, 3) := by decide +kernel
theorem dX11_takes_48 : decode cX11_takes 48 = .ok (.if_icmp .eq 5, 3) := by decide +kernel
theorem dX11_takes_51 : decode cX11_takes 51 = .ok (.iconst 0, 1) := by decide +kernel
theorem dX11_takes_52 : decode cX11_takes 52 = .ok (.ireturn, 1) := by decide +kernel
theorem dX11_takes_53 : decode cX11_takes 53 = .ok (.iconst 0, 1) := by decide +kernel
theorem dX11_takes_54 : decode cX11_takes 54 = .ok (.istore_n 3, 1) := by decide +kernel
theorem dX11_takes_55 : decode cX11_takes 55 = .ok (.iload_n 3, 1) := by decide +kernel
theorem dX11_takes_56 : decode cX11_takes 56 = .ok (.iload_n 2, 1) := by decide +kernel
theorem dX11_takes_57 : decode cX11_takes 57 = .ok (.if_icmp .ge 30, 3) := by decide +kernel
theorem dX11_takes_60 : decode cX11_takes 60 = .ok (.aload_n 0, 1) := by decide +kernel
theorem dX11_takes_61 : decode cX11_takes 61 = .ok (.getfield 36, 3) := by decide +kernel
theorem dX11_takes_64 : decode cX11_takes 64 = .ok (.aload_n 0, 1) := by decide +kernel
theorem dX11_takes_65 : decode cX11_takes 65 = .ok (.getfield 161, 3) := by decide +kernel
theorem dX11_takes_68 : decode cX11_takes 68 = .ok (.iload_n 3, 1) := by decide +kernel
theorem dX11_takes_69 : decode cX11_takes 69 = .ok (.iadd, 1) := by decide +kernel
theorem dX11_takes_70 : decode cX11_takes 70 = .ok (.iaload, 1) := by decide +kernel
theorem dX11_takes_71 : decode cX11_takes 71 = .ok (.aload_n 1, 1) := by decide +kernel
theorem dX11_takes_72 : decode cX11_takes 72 = .ok (.iload_n 3, 1) := by decide +kernel
theorem dX11_takes_73 : decode cX11_takes 73 = .ok (.invokevirtual 178, 3) := by decide +kernel
theorem dX11_takes_76 : decode cX11_takes 76 = .ok (.if_icmp .eq 5, 3) := by decide +kernel
theorem dX11_takes_79 : decode cX11_takes 79 = .ok (.iconst 0, 1) := by decide +kernel
theorem dX11_takes_80 : decode cX11_takes 80 = .ok (.ireturn, 1) := by decide +kernel
theorem dX11_takes_81 : decode cX11_takes 81 = .ok (.iinc 3 1, 3) := by decide +kernel
theorem dX11_takes_84 : decode cX11_takes 84 = .ok (.goto (-29), 3) := by decide +kernel
theorem dX11_takes_87 : decode cX11_takes 87 = .ok (.aload_n 0, 1) := by decide +kernel
theorem dX11_takes_88 : decode cX11_takes 88 = .ok (.dup, 1) := by decide +kernel
theorem dX11_takes_89 : decode cX11_takes 89 = .ok (.getfield 161, 3) := by decide +kernel
theorem dX11_takes_92 : decode cX11_takes 92 = .ok (.iload_n 2, 1) := by decide +kernel
theorem dX11_takes_93 : decode cX11_takes 93 = .ok (.iadd, 1) := by decide +kernel
theorem dX11_takes_94 : decode cX11_takes 94 = .ok (.putfield 161, 3) := by decide +kernel
theorem dX11_takes_97 : decode cX11_takes 97 = .ok (.iconst 1, 1) := by decide +kernel
theorem dX11_takes_98 : decode cX11_takes 98 = .ok (.ireturn, 1) := by decide +kernel
theorem dX11_sign_0 : decode cX11_sign 0 = .ok (.aload_n 0, 1) := by decide +kernel
theorem dX11_sign_1 : decode cX11_sign 1 = .ok (.invokevirtual 167, 3) := by decide +kernel
theorem dX11_sign_4 : decode cX11_sign 4 = .ok (.iload_n 1, 1) := by decide +kernel
theorem dX11_sign_5 : decode cX11_sign 5 = .ok (.if_icmp .eq 14, 3) := by decide +kernel
theorem dX11_sign_8 : decode cX11_sign 8 = .ok (.aload_n 0, 1) := by decide +kernel
theorem dX11_sign_9 : decode cX11_sign 9 = .ok (.bipush (-2), 2) := by decide +kernel
theorem dX11_sign_11 : decode cX11_sign 11 = .ok (.aload_n 0, 1) := by decide +kernel
theorem dX11_sign_12 : decode cX11_sign 12 = .ok (.getfield 161, 3) := by decide +kernel
theorem dX11_sign_15 : decode cX11_sign 15 = .ok (.invokevirtual 182, 3) := by decide +kernel
theorem dX11_sign_18 : decode cX11_sign 18 = .ok (.ireturn, 1) := by decide +kernel
theorem dX11_sign_19 : decode cX11_sign 19 = .ok (.aload_n 0, 1) := by decide +kernel
theorem dX11_sign_20 : decode cX11_sign 20 = .ok (.dup, 1) := by decide +kernel
theorem dX11_sign_21 : decode cX11_sign 21 = .ok (.getfield 161, 3) := by decide +kernel
theorem dX11_sign_24 : decode cX11_sign 24 = .ok (.iconst 1, 1) := by decide +kernel
theorem dX11_sign_25 : decode cX11_sign 25 = .ok (.iadd, 1) := by decide +kernel
theorem dX11_sign_26 : decode cX11_sign 26 = .ok (.putfield 161, 3) := by decide +kernel
theorem dX11_sign_29 : decode cX11_sign 29 = .ok (.iconst 1, 1) := by decide +kernel
theorem dX11_sign_30 : decode cX11_sign 30 = .ok (.ireturn, 1) := by decide +kernel
theorem dX11_digits_0 : decode cX11_digits 0 = .ok (.aload_n 0, 1) := by decide +kernel
theorem dX11_digits_1 : decode cX11_digits 1 = .ok (.invokevirtual 167, 3) := by decide +kernel
theorem dX11_digits_4 : decode cX11_digits 4 = .ok (.invokestatic 185, 3) := by decide +kernel
theorem dX11_digits_7 : decode cX11_digits 7 = .ok (.ifCond .ne 14, 3) := by decide +kernel
theorem dX11_digits_10 : decode cX11_digits 10 = .ok (.aload_n 0, 1) := by decide +kernel
theorem dX11_digits_11 : decode cX11_digits 11 = .ok (.bipush (-2), 2) := by decide +kernel
theorem dX11_digits_13 : decode cX11_digits 13 = .ok (.aload_n 0, 1) := by decide +kernel
theorem dX11_digits_14 : decode cX11_digits 14 = .ok (.getfield 161, 3) := by decide +kernel
theorem dX11_digits_17 : decode cX11_digits 17 = .ok (.invokevirtual 182, 3) := by decide +kernel
theorem dX11_digits_20 : decode cX11_digits 20 = .ok (.ireturn, 1) := by decide +kernel
theorem dX11_digits_21 : decode cX11_digits 21 = .ok (.aload_n 0, 1) := by decide +kernel
theorem dX11_digits_22 : decode cX11_digits 22 = .ok (.aload_n 0, 1) := by decide +kernel
theorem dX11_digits_23 : decode cX11_digits 23 = .ok (.getfield 161, 3) := by decide +kernel
theorem dX11_digits_26 : decode cX11_digits 26 = .ok (.putfield 188, 3) := by decide +kernel
theorem dX11_digits_29 : decode cX11_digits 29 = .ok (.aload_n 0, 1) := by decide +kernel
theorem dX11_digits_30 : decode cX11_digits 30 = .ok (.iconst 0, 1) := by decide +kernel
theorem dX11_digits_31 : decode cX11_digits 31 = .ok (.putfield 191, 3) := by decide +kernel
theorem dX11_digits_34 : decode cX11_digits 34 = .ok (.aload_n 0, 1) := by decide +kernel
theorem dX11_digits_35 : decode cX11_digits 35 = .ok (.getfield 161, 3) := by decide +kernel
theorem dX11_digits_38 : decode cX11_digits 38 = .ok (.aload_n 0, 1) := by decide +kernel
theorem dX11_digits_39 : decode cX11_digits 39 = .ok (.getfield 164, 3) := by decide +kernel
theorem dX11_digits_42 : decode cX11_digits 42 = .ok (.if_icmp .ge 71, 3) := by decide +kernel
theorem dX11_digits_45 : decode cX11_digits 45 = .ok (.aload_n 0, 1) := by decide +kernel
theorem dX11_digits_46 : decode cX11_digits 46 = .ok (.getfield 36, 3) := by decide +kernel
theorem dX11_digits_49 : decode cX11_digits 49 = .ok (.aload_n 0, 1) := by decide +kernel
theorem dX11_digits_50 : decode cX11_digits 50 = .ok (.getfield 161, 3) := by decide +kernel
theorem dX11_digits_53 : decode cX11_digits 53 = .ok (.iaload, 1) := by decide +kernel
theorem dX11_digits_54 : decode cX11_digits 54 = .ok (.invokestatic 185, 3) := by decide +kernel
theorem dX11_digits_57 : decode cX11_digits 57 = .ok (.ifCond .eq 56, 3) := by decide +kernel
theorem dX11_digits_60 : decode cX11_digits 60 = .ok (.aload_n 0, 1) := by decide +kernel
theorem dX11_digits_61 : decode cX11_digits 61 = .ok (.aload_n 0, 1) := by decide +kernel
theorem dX11_digits_62 : decode cX11_digits 62 = .ok (.getfield 191, 3) := by decide +kernel
theorem dX11_digits_65 : decode cX11_digits 65 = .ok (.ldc 194, 2) := by decide +kernel
theorem dX11_digits_67 : decode cX11_digits 67 = .ok (.if_icmp .le 10, 3) := by decide +kernel
theorem dX11_digits_70 : decode cX11_digits 70 = .ok (.aload_n 0, 1) := by decide +kernel
theorem dX11_digits_71 : decode cX11_digits 71 = .ok (.getfield 191, 3) := by decide +kernel
theorem dX11_digits_74 : decode cX11_digits 74 = .ok (.goto 23, 3) := by decide +kernel
theorem dX11_digits_77 : decode cX11_digits 77 = .ok (.bipush 10, 2) := by decide +kernel
theorem dX11_digits_79 : decode cX11_digits 79 = .ok (.aload_n 0, 1) := by decide +kernel
theorem dX11_digits_80 : decode cX11_digits 80 = .ok (.getfield 191, 3) := by decide +kernel
theorem dX11_digits_83 : decode cX11_digits 83 = .ok (.imul, 1) := by decide +kernel
theorem dX11_digits_84 : decode cX11_digits 84 = .ok (.aload_n 0, 1) := by decide +kernel
theorem dX11_digits_85 : decode cX11_digits 85 = .ok (.getfield 36, 3) := by decide +kernel
theorem dX11_digits_88 : decode cX11_digits 88 = .ok (.aload_n 0, 1) := by decide +kernel
theorem dX11_digits_89 : decode cX11_digits 89 = .ok (.getfield 161, 3) := by decide +kernel
theorem dX11_digits_92 : decode cX11_digits 92 = .ok (.iaload, 1) := by decide +kernel
theorem dX11_digits_93 : decode cX11_digits 93 = .ok (.iadd, 1) := by decide +kernel
theorem dX11_digits_94 : decode cX11_digits 94 = .ok (.bipush 48, 2) := by decide +kernel
theorem dX11_digits_96 : decode cX11_digits 96 = .ok (.isub, 1) := by decide +kernel
theorem dX11_digits_97 : decode cX11_digits 97 = .ok (.putfield 191, 3) := by decide +kernel
theorem dX11_digits_100 : decode cX11_digits 100 = .ok (.aload_n 0, 1) := by decide +kernel
theorem dX11_digits_101 : decode cX11_digits 101 = .ok (.dup, 1) := by decide +kernel
theorem dX11_digits_102 : decode cX11_digits 102 = .ok (.getfield 161, 3) := by decide +kernel
theorem dX11_digits_105 : decode cX11_digits 105 = .ok (.iconst 1, 1) := by decide +kernel
theorem dX11_digits_106 : decode cX11_digits 106 = .ok (.iadd, 1) := by decide +kernel
theorem dX11_digits_107 : decode cX11_digits 107 = .ok (.putfield 161, 3) := by decide +kernel
theorem dX11_digits_110 : decode cX11_digits 110 = .ok (.goto (-76), 3) := by decide +kernel
theorem dX11_digits_113 : decode cX11_digits 113 = .ok (.iconst 1, 1) := by decide +kernel
theorem dX11_digits_114 : decode cX11_digits 114 = .ok (.ireturn, 1) := by decide +kernel
theorem dX11_reads_0 : decode cX11_reads 0 = .ok (.aload_n 0, 1) := by decide +kernel
theorem dX11_reads_1 : decode cX11_reads 1 = .ok (.invokevirtual 195, 3) := by decide +kernel
theorem dX11_reads_4 : decode cX11_reads 4 = .ok (.ifCond .eq 32, 3) := by decide +kernel
theorem dX11_reads_7 : decode cX11_reads 7 = .ok (.aload_n 0, 1) := by decide +kernel
theorem dX11_reads_8 : decode cX11_reads 8 = .ok (.getfield 191, 3) := by decide +kernel
theorem dX11_reads_11 : decode cX11_reads 11 = .ok (.iload_n 1, 1) := by decide +kernel
theorem dX11_reads_12 : decode cX11_reads 12 = .ok (.iload_n 2, 1) := by decide +kernel
theorem dX11_reads_13 : decode cX11_reads 13 = .ok (.invokestatic 199, 3) := by decide +kernel
theorem dX11_reads_16 : decode cX11_reads 16 = .ok (.ifCond .ne 16, 3) := by decide +kernel
theorem dX11_reads_19 : decode cX11_reads 19 = .ok (.aload_n 0, 1) := by decide +kernel
theorem dX11_reads_20 : decode cX11_reads 20 = .ok (.bipush (-3), 2) := by decide +kernel
theorem dX11_reads_22 : decode cX11_reads 22 = .ok (.aload_n 0, 1) := by decide +kernel
theorem dX11_reads_23 : decode cX11_reads 23 = .ok (.getfield 188, 3) := by decide +kernel
theorem dX11_reads_26 : decode cX11_reads 26 = .ok (.invokevirtual 182, 3) := by decide +kernel
theorem dX11_reads_29 : decode cX11_reads 29 = .ok (.ifCond .eq 7, 3) := by decide +kernel
theorem dX11_reads_32 : decode cX11_reads 32 = .ok (.iconst 1, 1) := by decide +kernel
theorem dX11_reads_33 : decode cX11_reads 33 = .ok (.goto 4, 3) := by decide +kernel
theorem dX11_reads_36 : decode cX11_reads 36 = .ok (.iconst 0, 1) := by decide +kernel
theorem dX11_reads_37 : decode cX11_reads 37 = .ok (.ireturn, 1) := by decide +kernel
theorem dX11_more_0 : decode cX11_more 0 = .ok (.aload_n 0, 1) := by decide +kernel
theorem dX11_more_1 : decode cX11_more 1 = .ok (.invokevirtual 167, 3) := by decide +kernel
theorem dX11_more_4 : decode cX11_more 4 = .ok (.invokestatic 185, 3) := by decide +kernel
theorem dX11_more_7 : decode cX11_more 7 = .ok (.ireturn, 1) := by decide +kernel
theorem dX11_opens_0 : decode cX11_opens 0 = .ok (.aload_n 0, 1) := by decide +kernel
theorem dX11_opens_1 : decode cX11_opens 1 = .ok (.invokevirtual 167, 3) := by decide +kernel
theorem dX11_opens_4 : decode cX11_opens 4 = .ok (.bipush 40, 2) := by decide +kernel
theorem dX11_opens_6 : decode cX11_opens 6 = .ok (.if_icmp .eq 14, 3) := by decide +kernel
theorem dX11_opens_9 : decode cX11_opens 9 = .ok (.aload_n 0, 1) := by decide +kernel
theorem dX11_opens_10 : decode cX11_opens 10 = .ok (.bipush (-2), 2) := by decide +kernel
theorem dX11_opens_12 : decode cX11_opens 12 = .ok (.aload_n 0, 1) := by decide +kernel
theorem dX11_opens_13 : decode cX11_opens 13 = .ok (.getfield 161, 3) := by decide +kernel
theorem dX11_opens_16 : decode cX11_opens 16 = .ok (.invokevirtual 182, 3) := by decide +kernel
theorem dX11_opens_19 : decode cX11_opens 19 = .ok (.ireturn, 1) := by decide +kernel
theorem dX11_opens_20 : decode cX11_opens 20 = .ok (.aload_n 0, 1) := by decide +kernel
theorem dX11_opens_21 : decode cX11_opens 21 = .ok (.getfield 202, 3) := by decide +kernel
theorem dX11_opens_24 : decode cX11_opens 24 = .ok (.iconst 4, 1) := by decide +kernel
theorem dX11_opens_25 : decode cX11_opens 25 = .ok (.if_icmp .ne 14, 3) := by decide +kernel
theorem dX11_opens_28 : decode cX11_opens 28 = .ok (.aload_n 0, 1) := by decide +kernel
theorem dX11_opens_29 : decode cX11_opens 29 = .ok (.bipush (-6), 2) := by decide +kernel
theorem dX11_opens_31 : decode cX11_opens 31 = .ok (.aload_n 0, 1) := by decide +kernel
theorem dX11_opens_32 : decode cX11_opens 32 = .ok (.getfield 161, 3) := by decide +kernel
theorem dX11_opens_35 : decode cX11_opens 35 = .ok (.invokevirtual 182, 3) := by decide +kernel
theorem dX11_opens_38 : decode cX11_opens 38 = .ok (.ireturn, 1) := by decide +kernel
theorem dX11_opens_39 : decode cX11_opens 39 = .ok (.aload_n 0, 1) := by decide +kernel
theorem dX11_opens_40 : decode cX11_opens 40 = .ok (.dup, 1) := by decide +kernel
theorem dX11_opens_41 : decode cX11_opens 41 = .ok (.getfield 202, 3) := by decide +kernel
theorem dX11_opens_44 : decode cX11_opens 44 = .ok (.iconst 1, 1) := by decide +kernel
theorem dX11_opens_45 : decode cX11_opens 45 = .ok (.iadd, 1) := by decide +kernel
theorem dX11_opens_46 : decode cX11_opens 46 = .ok (.putfield 202, 3) := by decide +kernel
theorem dX11_opens_49 : decode cX11_opens 49 = .ok (.aload_n 0, 1) := by decide +kernel
theorem dX11_opens_50 : decode cX11_opens 50 = .ok (.dup, 1) := by decide +kernel
theorem dX11_opens_51 : decode cX11_opens 51 = .ok (.getfield 161, 3) := by decide +kernel
theorem dX11_opens_54 : decode cX11_opens 54 = .ok (.iconst 1, 1) := by decide +kernel
theorem dX11_opens_55 : decode cX11_opens 55 = .ok (.iadd, 1) := by decide +kernel
theorem dX11_opens_56 : decode cX11_opens 56 = .ok (.putfield 161, 3) := by decide +kernel
theorem dX11_opens_59 : decode cX11_opens 59 = .ok (.iconst 1, 1) := by decide +kernel
theorem dX11_opens_60 : decode cX11_opens 60 = .ok (.ireturn, 1) := by decide +kernel
theorem dX11_closes_0 : decode cX11_closes 0 = .ok (.aload_n 0, 1) := by decide +kernel
theorem dX11_closes_1 : decode cX11_closes 1 = .ok (.bipush 41, 2) := by decide +kernel
theorem dX11_closes_3 : decode cX11_closes 3 = .ok (.invokevirtual 205, 3) := by decide +kernel
theorem dX11_closes_6 : decode cX11_closes 6 = .ok (.ifCond .ne 5, 3) := by decide +kernel
theorem dX11_closes_9 : decode cX11_closes 9 = .ok (.iconst 0, 1) := by decide +kernel
theorem dX11_closes_10 : decode cX11_closes 10 = .ok (.ireturn, 1) := by decide +kernel
theorem dX11_closes_11 : decode cX11_closes 11 = .ok (.aload_n 0, 1) := by decide +kernel
theorem dX11_closes_12 : decode cX11_closes 12 = .ok (.dup, 1) := by decide +kernel
theorem dX11_closes_13 : decode cX11_closes 13 = .ok (.getfield 202, 3) := by decide +kernel
theorem dX11_closes_16 : decode cX11_closes 16 = .ok (.iconst 1, 1) := by decide +kernel
theorem dX11_closes_17 : decode cX11_closes 17 = .ok (.isub, 1) := by decide +kernel
theorem dX11_closes_18 : decode cX11_closes 18 = .ok (.putfield 202, 3) := by decide +kernel
theorem dX11_closes_21 : decode cX11_closes 21 = .ok (.iconst 1, 1) := by decide +kernel
theorem dX11_closes_22 : decode cX11_closes 22 = .ok (.ireturn, 1) := by decide +kernel
theorem dX11_emits_0 : decode cX11_emits 0 = .ok (.sipush 1169, 3) := by decide +kernel
theorem dX11_emits_3 : decode cX11_emits 3 = .ok (.iconst 2, 1) := by decide +kernel
theorem dX11_emits_4 : decode cX11_emits 4 = .ok (.aload_n 0, 1) := by decide +kernel
theorem dX11_emits_5 : decode cX11_emits 5 = .ok (.getfield 14, 3) := by decide +kernel
theorem dX11_emits_8 : decode cX11_emits 8 = .ok (.iconst 3, 1) := by decide +kernel
theorem dX11_emits_9 : decode cX11_emits 9 = .ok (.iaload, 1) := by decide +kernel
theorem dX11_emits_10 : decode cX11_emits 10 = .ok (.imul, 1) := by decide +kernel
theorem dX11_emits_11 : decode cX11_emits 11 = .ok (.iadd, 1) := by decide +kernel
theorem dX11_emits_12 : decode cX11_emits 12 = .ok (.istore_n 3, 1) := by decide +kernel
theorem dX11_emits_13 : decode cX11_emits 13 = .ok (.aload_n 0, 1) := by decide +kernel
theorem dX11_emits_14 : decode cX11_emits 14 = .ok (.getfield 14, 3) := by decide +kernel
theorem dX11_emits_17 : decode cX11_emits 17 = .ok (.iload_n 3, 1) := by decide +kernel
theorem dX11_emits_18 : decode cX11_emits 18 = .ok (.iload_n 1, 1) := by decide +kernel
theorem dX11_emits_19 : decode cX11_emits 19 = .ok (.iastore, 1) := by decide +kernel
theorem dX11_emits_20 : decode cX11_emits 20 = .ok (.aload_n 0, 1) := by decide +kernel
theorem dX11_emits_21 : decode cX11_emits 21 = .ok (.getfield 14, 3) := by decide +kernel
theorem dX11_emits_24 : decode cX11_emits 24 = .ok (.iload_n 3, 1) := by decide +kernel
theorem dX11_emits_25 : decode cX11_emits 25 = .ok (.iconst 1, 1) := by decide +kernel
theorem dX11_emits_26 : decode cX11_emits 26 = .ok (.iadd, 1) := by decide +kernel
theorem dX11_emits_27 : decode cX11_emits 27 = .ok (.iload_n 2, 1) := by decide +kernel
theorem dX11_emits_28 : decode cX11_emits 28 = .ok (.iastore, 1) := by decide +kernel
theorem dX11_emits_29 : decode cX11_emits 29 = .ok (.aload_n 0, 1) := by decide +kernel
theorem dX11_emits_30 : decode cX11_emits 30 = .ok (.getfield 14, 3) := by decide +kernel
theorem dX11_emits_33 : decode cX11_emits 33 = .ok (.iconst 3, 1) := by decide +kernel
theorem dX11_emits_34 : decode cX11_emits 34 = .ok (.dup2, 1) := by decide +kernel
theorem dX11_emits_35 : decode cX11_emits 35 = .ok (.iaload, 1) := by decide +kernel
theorem dX11_emits_36 : decode cX11_emits 36 = .ok (.iconst 1, 1) := by decide +kernel
theorem dX11_emits_37 : decode cX11_emits 37 = .ok (.iadd, 1) := by decide +kernel
theorem dX11_emits_38 : decode cX11_emits 38 = .ok (.iastore, 1) := by decide +kernel
theorem dX11_emits_39 : decode cX11_emits 39 = .ok (.return_, 1) := by decide +kernel
theorem dX11_variable_0 : decode cX11_variable 0 = .ok (.aload_n 0, 1) := by decide +kernel
theorem dX11_variable_1 : decode cX11_variable 1 = .ok (.ldc 208, 2) := by decide +kernel
theorem dX11_variable_3 : decode cX11_variable 3 = .ok (.invokevirtual 209, 3) := by decide +kernel
theorem dX11_variable_6 : decode cX11_variable 6 = .ok (.ifCond .eq 7, 3) := by decide +kernel
theorem dX11_variable_9 : decode cX11_variable 9 = .ok (.iconst 0, 1) := by decide +kernel
theorem dX11_variable_10 : decode cX11_variable 10 = .ok (.goto 69, 3) := by decide +kernel
theorem dX11_variable_13 : decode cX11_variable 13 = .ok (.aload_n 0, 1) := by decide +kernel
theorem dX11_variable_14 : decode cX11_variable 14 = .ok (.ldc 213, 2) := by decide +kernel
theorem dX11_variable_16 : decode cX11_variable 16 = .ok (.invokevirtual 209, 3) := by decide +kernel
theorem dX11_variable_19 : decode cX11_variable 19 = .ok (.ifCond .eq 7, 3) := by decide +kernel
theorem dX11_variable_22 : decode cX11_variable 22 = .ok (.iconst 1, 1) := by decide +kernel
theorem dX11_variable_23 : decode cX11_variable 23 = .ok (.goto 56, 3) := by decide +kernel
theorem dX11_variable_26 : decode cX11_variable 26 = .ok (.aload_n 0, 1) := by decide +kernel
theorem dX11_variable_27 : decode cX11_variable 27 = .ok (.ldc 215, 2) := by decide +kernel
theorem dX11_variable_29 : decode cX11_variable 29 = .ok (.invokevirtual 209, 3) := by decide +kernel
theorem dX11_variable_32 : decode cX11_variable 32 = .ok (.ifCond .eq 7, 3) := by decide +kernel
theorem dX11_variable_35 : decode cX11_variable 35 = .ok (.iconst 2, 1) := by decide +kernel
theorem dX11_variable_36 : decode cX11_variable 36 = .ok (.goto 43, 3) := by decide +kernel
theorem dX11_variable_39 : decode cX11_variable 39 = .ok (.aload_n 0, 1) := by decide +kernel
theorem dX11_variable_40 : decode cX11_variable 40 = .ok (.ldc 217, 2) := by decide +kernel
theorem dX11_variable_42 : decode cX11_variable 42 = .ok (.invokevirtual 209, 3) := by decide +kernel
theorem dX11_variable_45 : decode cX11_variable 45 = .ok (.ifCond .eq 7, 3) := by decide +kernel
theorem dX11_variable_48 : decode cX11_variable 48 = .ok (.iconst 3, 1) := by decide +kernel
theorem dX11_variable_49 : decode cX11_variable 49 = .ok (.goto 30, 3) := by decide +kernel
theorem dX11_variable_52 : decode cX11_variable 52 = .ok (.aload_n 0, 1) := by decide +kernel
theorem dX11_variable_53 : decode cX11_variable 53 = .ok (.ldc 218, 2) := by decide +kernel
theorem dX11_variable_55 : decode cX11_variable 55 = .ok (.invokevirtual 209, 3) := by decide +kernel
theorem dX11_variable_58 : decode cX11_variable 58 = .ok (.ifCond .eq 7, 3) := by decide +kernel
theorem dX11_variable_61 : decode cX11_variable 61 = .ok (.iconst 4, 1) := by decide +kernel
theorem dX11_variable_62 : decode cX11_variable 62 = .ok (.goto 17, 3) := by decide +kernel
theorem dX11_variable_65 : decode cX11_variable 65 = .ok (.aload_n 0, 1) := by decide +kernel
theorem dX11_variable_66 : decode cX11_variable 66 = .ok (.ldc 220, 2) := by decide +kernel
theorem dX11_variable_68 : decode cX11_variable 68 = .ok (.invokevirtual 209, 3) := by decide +kernel
theorem dX11_variable_71 : decode cX11_variable 71 = .ok (.ifCond .eq 7, 3) := by decide +kernel
theorem dX11_variable_74 : decode cX11_variable 74 = .ok (.iconst 5, 1) := by decide +kernel
theorem dX11_variable_75 : decode cX11_variable 75 = .ok (.goto 4, 3) := by decide +kernel
theorem dX11_variable_78 : decode cX11_variable 78 = .ok (.iconst (-1), 1) := by decide +kernel
theorem dX11_variable_79 : decode cX11_variable 79 = .ok (.ireturn, 1) := by decide +kernel
theorem dX11_readsFactor_0 : decode cX11_readsFactor 0 = .ok (.aload_n 0, 1) := by decide +kernel
theorem dX11_readsFactor_1 : decode cX11_readsFactor 1 = .ok (.invokevirtual 167, 3) := by decide +kernel
theorem dX11_readsFactor_4 : decode cX11_readsFactor 4 = .ok (.bipush 40, 2) := by decide +kernel
theorem dX11_readsFactor_6 : decode cX11_readsFactor 6 = .ok (.if_icmp .ne 30, 3) := by decide +kernel
theorem dX11_readsFactor_9 : decode cX11_readsFactor 9 = .ok (.aload_n 0, 1) := by decide +kernel
theorem dX11_readsFactor_10 : decode cX11_readsFactor 10 = .ok (.invokevirtual 222, 3) := by decide +kernel
theorem dX11_readsFactor_13 : decode cX11_readsFactor 13 = .ok (.ifCond .eq 21, 3) := by decide +kernel
theorem dX11_readsFactor_16 : decode cX11_readsFactor 16 = .ok (.aload_n 0, 1) := by decide +kernel
theorem dX11_readsFactor_17 : decode cX11_readsFactor 17 = .ok (.invokevirtual 225, 3) := by decide +kernel
theorem dX11_readsFactor_20 : decode cX11_readsFactor 20 = .ok (.ifCond .eq 14, 3) := by decide +kernel
theorem dX11_readsFactor_23 : decode cX11_readsFactor 23 = .ok (.aload_n 0, 1) := by decide +kernel
theorem dX11_readsFactor_24 : decode cX11_readsFactor 24 = .ok (.invokevirtual 228, 3) := by decide +kernel
theorem dX11_readsFactor_27 : decode cX11_readsFactor 27 = .ok (.ifCond .eq 7, 3) := by decide +kernel
theorem dX11_readsFactor_30 : decode cX11_readsFactor 30 = .ok (.iconst 1, 1) := by decide +kernel
theorem dX11_readsFactor_31 : decode cX11_readsFactor 31 = .ok (.goto 4, 3) := by decide +kernel
theorem dX11_readsFactor_34 : decode cX11_readsFactor 34 = .ok (.iconst 0, 1) := by decide +kernel
theorem dX11_readsFactor_35 : decode cX11_readsFactor 35 = .ok (.ireturn, 1) := by decide +kernel
theorem dX11_readsFactor_36 : decode cX11_readsFactor 36 = .ok (.aload_n 0, 1) := by decide +kernel
theorem dX11_readsFactor_37 : decode cX11_readsFactor 37 = .ok (.invokevirtual 231, 3) := by decide +kernel
theorem dX11_readsFactor_40 : decode cX11_readsFactor 40 = .ok (.ifCond .eq 27, 3) := by decide +kernel
theorem dX11_readsFactor_43 : decode cX11_readsFactor 43 = .ok (.aload_n 0, 1) := by decide +kernel
theorem dX11_readsFactor_44 : decode cX11_readsFactor 44 = .ok (.iconst 0, 1) := by decide +kernel
theorem dX11_readsFactor_45 : decode cX11_readsFactor 45 = .ok (.sipush 9999, 3) := by decide +kernel
theorem dX11_readsFactor_48 : decode cX11_readsFactor 48 = .ok (.invokevirtual 234, 3) := by decide +kernel
theorem dX11_readsFactor_51 : decode cX11_readsFactor 51 = .ok (.ifCond .ne 5, 3) := by decide +kernel
theorem dX11_readsFactor_54 : decode cX11_readsFactor 54 = .ok (.iconst 0, 1) := by decide +kernel
theorem dX11_readsFactor_55 : decode cX11_readsFactor 55 = .ok (.ireturn, 1) := by decide +kernel
theorem dX11_readsFactor_56 : decode cX11_readsFactor 56 = .ok (.aload_n 0, 1) := by decide +kernel
theorem dX11_readsFactor_57 : decode cX11_readsFactor 57 = .ok (.iconst 0, 1) := by decide +kernel
theorem dX11_readsFactor_58 : decode cX11_readsFactor 58 = .ok (.aload_n 0, 1) := by decide +kernel
theorem dX11_readsFactor_59 : decode cX11_readsFactor 59 = .ok (.getfield 191, 3) := by decide +kernel
theorem dX11_readsFactor_62 : decode cX11_readsFactor 62 = .ok (.invokevirtual 237, 3) := by decide +kernel
theorem dX11_readsFactor_65 : decode cX11_readsFactor 65 = .ok (.iconst 1, 1) := by decide +kernel
theorem dX11_readsFactor_66 : decode cX11_readsFactor 66 = .ok (.ireturn, 1) := by decide +kernel
theorem dX11_readsFactor_67 : decode cX11_readsFactor 67 = .ok (.aload_n 0, 1) := by decide +kernel
theorem dX11_readsFactor_68 : decode cX11_readsFactor 68 = .ok (.invokevirtual 240, 3) := by decide +kernel
theorem dX11_readsFactor_71 : decode cX11_readsFactor 71 = .ok (.istore_n 1, 1) := by decide +kernel
theorem dX11_readsFactor_72 : decode cX11_readsFactor 72 = .ok (.iload_n 1, 1) := by decide +kernel
theorem dX11_readsFactor_73 : decode cX11_readsFactor 73 = .ok (.iconst (-1), 1) := by decide +kernel
theorem dX11_readsFactor_74 : decode cX11_readsFactor 74 = .ok (.if_icmp .ne 14, 3) := by decide +kernel
theorem dX11_readsFactor_77 : decode cX11_readsFactor 77 = .ok (.aload_n 0, 1) := by decide +kernel
theorem dX11_readsFactor_78 : decode cX11_readsFactor 78 = .ok (.bipush (-2), 2) := by decide +kernel
theorem dX11_readsFactor_80 : decode cX11_readsFactor 80 = .ok (.aload_n 0, 1) := by decide +kernel
theorem dX11_readsFactor_81 : decode cX11_readsFactor 81 = .ok (.getfield 161, 3) := by decide +kernel
theorem dX11_readsFactor_84 : decode cX11_readsFactor 84 = .ok (.invokevirtual 182, 3) := by decide +kernel
theorem dX11_readsFactor_87 : decode cX11_readsFactor 87 = .ok (.ireturn, 1) := by decide +kernel
theorem dX11_readsFactor_88 : decode cX11_readsFactor 88 = .ok (.aload_n 0, 1) := by decide +kernel
theorem dX11_readsFactor_89 : decode cX11_readsFactor 89 = .ok (.iconst 1, 1) := by decide +kernel
theorem dX11_readsFactor_90 : decode cX11_readsFactor 90 = .ok (.iload_n 1, 1) := by decide +kernel
theorem dX11_readsFactor_91 : decode cX11_readsFactor 91 = .ok (.invokevirtual 237, 3) := by decide +kernel
theorem dX11_readsFactor_94 : decode cX11_readsFactor 94 = .ok (.iconst 1, 1) := by decide +kernel
theorem dX11_readsFactor_95 : decode cX11_readsFactor 95 = .ok (.ireturn, 1) := by decide +kernel
theorem dX11_readsTerm_0 : decode cX11_readsTerm 0 = .ok (.aload_n 0, 1) := by decide +kernel
theorem dX11_readsTerm_1 : decode cX11_readsTerm 1 = .ok (.invokevirtual 243, 3) := by decide +kernel
theorem dX11_readsTerm_4 : decode cX11_readsTerm 4 = .ok (.ifCond .ne 5, 3) := by decide +kernel
theorem dX11_readsTerm_7 : decode cX11_readsTerm 7 = .ok (.iconst 0, 1) := by decide +kernel
theorem dX11_readsTerm_8 : decode cX11_readsTerm 8 = .ok (.ireturn, 1) := by decide +kernel
theorem dX11_readsTerm_9 : decode cX11_readsTerm 9 = .ok (.aload_n 0, 1) := by decide +kernel
theorem dX11_readsTerm_10 : decode cX11_readsTerm 10 = .ok (.invokevirtual 167, 3) := by decide +kernel
theorem dX11_readsTerm_13 : decode cX11_readsTerm 13 = .ok (.bipush 42, 2) := by decide +kernel
theorem dX11_readsTerm_15 : decode cX11_readsTerm 15 = .ok (.if_icmp .eq 12, 3) := by decide +kernel
theorem dX11_readsTerm_18 : decode cX11_readsTerm 18 = .ok (.aload_n 0, 1) := by decide +kernel
theorem dX11_readsTerm_19 : decode cX11_readsTerm 19 = .ok (.invokevirtual 167, 3) := by decide +kernel
theorem dX11_readsTerm_22 : decode cX11_readsTerm 22 = .ok (.bipush 47, 2) := by decide +kernel
theorem dX11_readsTerm_24 : decode cX11_readsTerm 24 = .ok (.if_icmp .ne 46, 3) := by decide +kernel
theorem dX11_readsTerm_27 : decode cX11_readsTerm 27 = .ok (.aload_n 0, 1) := by decide +kernel
theorem dX11_readsTerm_28 : decode cX11_readsTerm 28 = .ok (.invokevirtual 167, 3) := by decide +kernel
theorem dX11_readsTerm_31 : decode cX11_readsTerm 31 = .ok (.bipush 42, 2) := by decide +kernel
theorem dX11_readsTerm_33 : decode cX11_readsTerm 33 = .ok (.if_icmp .ne 7, 3) := by decide +kernel
theorem dX11_readsTerm_36 : decode cX11_readsTerm 36 = .ok (.iconst 4, 1) := by decide +kernel
theorem dX11_readsTerm_37 : decode cX11_readsTerm 37 = .ok (.goto 4, 3) := by decide +kernel
theorem dX11_readsTerm_40 : decode cX11_readsTerm 40 = .ok (.iconst 5, 1) := by decide +kernel
theorem dX11_readsTerm_41 : decode cX11_readsTerm 41 = .ok (.istore_n 1, 1) := by decide +kernel
theorem dX11_readsTerm_42 : decode cX11_readsTerm 42 = .ok (.aload_n 0, 1) := by decide +kernel
theorem dX11_readsTerm_43 : decode cX11_readsTerm 43 = .ok (.dup, 1) := by decide +kernel
theorem dX11_readsTerm_44 : decode cX11_readsTerm 44 = .ok (.getfield 161, 3) := by decide +kernel
theorem dX11_readsTerm_47 : decode cX11_readsTerm 47 = .ok (.iconst 1, 1) := by decide +kernel
theorem dX11_readsTerm_48 : decode cX11_readsTerm 48 = .ok (.iadd, 1) := by decide +kernel
theorem dX11_readsTerm_49 : decode cX11_readsTerm 49 = .ok (.putfield 161, 3) := by decide +kernel
theorem dX11_readsTerm_52 : decode cX11_readsTerm 52 = .ok (.aload_n 0, 1) := by decide +kernel
theorem dX11_readsTerm_53 : decode cX11_readsTerm 53 = .ok (.invokevirtual 243, 3) := by decide +kernel
theorem dX11_readsTerm_56 : decode cX11_readsTerm 56 = .ok (.ifCond .ne 5, 3) := by decide +kernel
theorem dX11_readsTerm_59 : decode cX11_readsTerm 59 = .ok (.iconst 0, 1) := by decide +kernel
theorem dX11_readsTerm_60 : decode cX11_readsTerm 60 = .ok (.ireturn, 1) := by decide +kernel
theorem dX11_readsTerm_61 : decode cX11_readsTerm 61 = .ok (.aload_n 0, 1) := by decide +kernel
theorem dX11_readsTerm_62 : decode cX11_readsTerm 62 = .ok (.iload_n 1, 1) := by decide +kernel
theorem dX11_readsTerm_63 : decode cX11_readsTerm 63 = .ok (.iconst 0, 1) := by decide +kernel
theorem dX11_readsTerm_64 : decode cX11_readsTerm 64 = .ok (.invokevirtual 237, 3) := by decide +kernel
theorem dX11_readsTerm_67 : decode cX11_readsTerm 67 = .ok (.goto (-58), 3) := by decide +kernel
theorem dX11_readsTerm_70 : decode cX11_readsTerm 70 = .ok (.iconst 1, 1) := by decide +kernel
theorem dX11_readsTerm_71 : decode cX11_readsTerm 71 = .ok (.ireturn, 1) := by decide +kernel
theorem dX11_readsSum_0 : decode cX11_readsSum 0 = .ok (.aload_n 0, 1) := by decide +kernel
theorem dX11_readsSum_1 : decode cX11_readsSum 1 = .ok (.invokevirtual 246, 3) := by decide +kernel
theorem dX11_readsSum_4 : decode cX11_readsSum 4 = .ok (.ifCond .ne 5, 3) := by decide +kernel
theorem dX11_readsSum_7 : decode cX11_readsSum 7 = .ok (.iconst 0, 1) := by decide +kernel
theorem dX11_readsSum_8 : decode cX11_readsSum 8 = .ok (.ireturn, 1) := by decide +kernel
theorem dX11_readsSum_9 : decode cX11_readsSum 9 = .ok (.aload_n 0, 1) := by decide +kernel
theorem dX11_readsSum_10 : decode cX11_readsSum 10 = .ok (.invokevirtual 167, 3) := by decide +kernel
theorem dX11_readsSum_13 : decode cX11_readsSum 13 = .ok (.bipush 43, 2) := by decide +kernel
theorem dX11_readsSum_15 : decode cX11_readsSum 15 = .ok (.if_icmp .eq 12, 3) := by decide +kernel
theorem dX11_readsSum_18 : decode cX11_readsSum 18 = .ok (.aload_n 0, 1) := by decide +kernel
theorem dX11_readsSum_19 : decode cX11_readsSum 19 = .ok (.invokevirtual 167, 3) := by decide +kernel
theorem dX11_readsSum_22 : decode cX11_readsSum 22 = .ok (.bipush 45, 2) := by decide +kernel
theorem dX11_readsSum_24 : decode cX11_readsSum 24 = .ok (.if_icmp .ne 46, 3) := by decide +kernel
theorem dX11_readsSum_27 : decode cX11_readsSum 27 = .ok (.aload_n 0, 1) := by decide +kernel
theorem dX11_readsSum_28 : decode cX11_readsSum 28 = .ok (.invokevirtual 167, 3) := by decide +kernel
theorem dX11_readsSum_31 : decode cX11_readsSum 31 = .ok (.bipush 43, 2) := by decide +kernel
theorem dX11_readsSum_33 : decode cX11_readsSum 33 = .ok (.if_icmp .ne 7, 3) := by decide +kernel
theorem dX11_readsSum_36 : decode cX11_readsSum 36 = .ok (.iconst 2, 1) := by decide +kernel
theorem dX11_readsSum_37 : decode cX11_readsSum 37 = .ok (.goto 4, 3) := by decide +kernel
theorem dX11_readsSum_40 : decode cX11_readsSum 40 = .ok (.iconst 3, 1) := by decide +kernel
theorem dX11_readsSum_41 : decode cX11_readsSum 41 = .ok (.istore_n 1, 1) := by decide +kernel
theorem dX11_readsSum_42 : decode cX11_readsSum 42 = .ok (.aload_n 0, 1) := by decide +kernel
theorem dX11_readsSum_43 : decode cX11_readsSum 43 = .ok (.dup, 1) := by decide +kernel
theorem dX11_readsSum_44 : decode cX11_readsSum 44 = .ok (.getfield 161, 3) := by decide +kernel
theorem dX11_readsSum_47 : decode cX11_readsSum 47 = .ok (.iconst 1, 1) := by decide +kernel
theorem dX11_readsSum_48 : decode cX11_readsSum 48 = .ok (.iadd, 1) := by decide +kernel
theorem dX11_readsSum_49 : decode cX11_readsSum 49 = .ok (.putfield 161, 3) := by decide +kernel
theorem dX11_readsSum_52 : decode cX11_readsSum 52 = .ok (.aload_n 0, 1) := by decide +kernel
theorem dX11_readsSum_53 : decode cX11_readsSum 53 = .ok (.invokevirtual 246, 3) := by decide +kernel
theorem dX11_readsSum_56 : decode cX11_readsSum 56 = .ok (.ifCond .ne 5, 3) := by decide +kernel
theorem dX11_readsSum_59 : decode cX11_readsSum 59 = .ok (.iconst 0, 1) := by decide +kernel
theorem dX11_readsSum_60 : decode cX11_readsSum 60 = .ok (.ireturn, 1) := by decide +kernel
theorem dX11_readsSum_61 : decode cX11_readsSum 61 = .ok (.aload_n 0, 1) := by decide +kernel
theorem dX11_readsSum_62 : decode cX11_readsSum 62 = .ok (.iload_n 1, 1) := by decide +kernel
theorem dX11_readsSum_63 : decode cX11_readsSum 63 = .ok (.iconst 0, 1) := by decide +kernel
theorem dX11_readsSum_64 : decode cX11_readsSum 64 = .ok (.invokevirtual 237, 3) := by decide +kernel
theorem dX11_readsSum_67 : decode cX11_readsSum 67 = .ok (.goto (-58), 3) := by decide +kernel
theorem dX11_readsSum_70 : decode cX11_readsSum 70 = .ok (.iconst 1, 1) := by decide +kernel
theorem dX11_readsSum_71 : decode cX11_readsSum 71 = .ok (.ireturn, 1) := by decide +kernel
theorem dX11_goals_0 : decode cX11_goals 0 = .ok (.sipush 2769, 3) := by decide +kernel
theorem dX11_goals_3 : decode cX11_goals 3 = .ok (.iconst 2, 1) := by decide +kernel
theorem dX11_goals_4 : decode cX11_goals 4 = .ok (.aload_n 0, 1) := by decide +kernel
theorem dX11_goals_5 : decode cX11_goals 5 = .ok (.getfield 14, 3) := by decide +kernel
theorem dX11_goals_8 : decode cX11_goals 8 = .ok (.iconst 4, 1) := by decide +kernel
theorem dX11_goals_9 : decode cX11_goals 9 = .ok (.iaload, 1) := by decide +kernel
theorem dX11_goals_10 : decode cX11_goals 10 = .ok (.imul, 1) := by decide +kernel
theorem dX11_goals_11 : decode cX11_goals 11 = .ok (.iadd, 1) := by decide +kernel
theorem dX11_goals_12 : decode cX11_goals 12 = .ok (.istore_n 3, 1) := by decide +kernel
theorem dX11_goals_13 : decode cX11_goals 13 = .ok (.aload_n 0, 1) := by decide +kernel
theorem dX11_goals_14 : decode cX11_goals 14 = .ok (.getfield 14, 3) := by decide +kernel
theorem dX11_goals_17 : decode cX11_goals 17 = .ok (.iload_n 3, 1) := by decide +kernel
theorem dX11_goals_18 : decode cX11_goals 18 = .ok (.iload_n 1, 1) := by decide +kernel
theorem dX11_goals_19 : decode cX11_goals 19 = .ok (.iastore, 1) := by decide +kernel
theorem dX11_goals_20 : decode cX11_goals 20 = .ok (.aload_n 0, 1) := by decide +kernel
theorem dX11_goals_21 : decode cX11_goals 21 = .ok (.getfield 14, 3) := by decide +kernel
theorem dX11_goals_24 : decode cX11_goals 24 = .ok (.iload_n 3, 1) := by decide +kernel
theorem dX11_goals_25 : decode cX11_goals 25 = .ok (.iconst 1, 1) := by decide +kernel
theorem dX11_goals_26 : decode cX11_goals 26 = .ok (.iadd, 1) := by decide +kernel
theorem dX11_goals_27 : decode cX11_goals 27 = .ok (.iload_n 2, 1) := by decide +kernel
theorem dX11_goals_28 : decode cX11_goals 28 = .ok (.iastore, 1) := by decide +kernel
theorem dX11_goals_29 : decode cX11_goals 29 = .ok (.aload_n 0, 1) := by decide +kernel
theorem dX11_goals_30 : decode cX11_goals 30 = .ok (.getfield 14, 3) := by decide +kernel
theorem dX11_goals_33 : decode cX11_goals 33 = .ok (.iconst 4, 1) := by decide +kernel
theorem dX11_goals_34 : decode cX11_goals 34 = .ok (.dup2, 1) := by decide +kernel
theorem dX11_goals_35 : decode cX11_goals 35 = .ok (.iaload, 1) := by decide +kernel
theorem dX11_goals_36 : decode cX11_goals 36 = .ok (.iconst 1, 1) := by decide +kernel
theorem dX11_goals_37 : decode cX11_goals 37 = .ok (.iadd, 1) := by decide +kernel
theorem dX11_goals_38 : decode cX11_goals 38 = .ok (.iastore, 1) := by decide +kernel
theorem dX11_goals_39 : decode cX11_goals 39 = .ok (.return_, 1) := by decide +kernel
theorem dX11_readsSeveral_0 : decode cX11_readsSeveral 0 = .ok (.iconst 0, 1) := by decide +kernel
theorem dX11_readsSeveral_1 : decode cX11_readsSeveral 1 = .ok (.istore_n 2, 1) := by decide +kernel
theorem dX11_readsSeveral_2 : decode cX11_readsSeveral 2 = .ok (.aload_n 0, 1) := by decide +kernel
theorem dX11_readsSeveral_3 : decode cX11_readsSeveral 3 = .ok (.invokevirtual 222, 3) := by decide +kernel
theorem dX11_readsSeveral_6 : decode cX11_readsSeveral 6 = .ok (.ifCond .ne 5, 3) := by decide +kernel
theorem dX11_readsSeveral_9 : decode cX11_readsSeveral 9 = .ok (.iconst 0, 1) := by decide +kernel
theorem dX11_readsSeveral_10 : decode cX11_readsSeveral 10 = .ok (.ireturn, 1) := by decide +kernel
theorem dX11_readsSeveral_11 : decode cX11_readsSeveral 11 = .ok (.iload_n 2, 1) := by decide +kernel
theorem dX11_readsSeveral_12 : decode cX11_readsSeveral 12 = .ok (.ifCond .le 13, 3) := by decide +kernel
theorem dX11_readsSeveral_15 : decode cX11_readsSeveral 15 = .ok (.aload_n 0, 1) := by decide +kernel
theorem dX11_readsSeveral_16 : decode cX11_readsSeveral 16 = .ok (.dup, 1) := by decide +kernel
theorem dX11_readsSeveral_17 : decode cX11_readsSeveral 17 = .ok (.getfield 161, 3) := by decide +kernel
theorem dX11_readsSeveral_20 : decode cX11_readsSeveral 20 = .ok (.iconst 1, 1) := by decide +kernel
theorem dX11_readsSeveral_21 : decode cX11_readsSeveral 21 = .ok (.iadd, 1) := by decide +kernel
theorem dX11_readsSeveral_22 : decode cX11_readsSeveral 22 = .ok (.putfield 161, 3) := by decide +kernel
theorem dX11_readsSeveral_25 : decode cX11_readsSeveral 25 = .ok (.aload_n 0, 1) := by decide +kernel
theorem dX11_readsSeveral_26 : decode cX11_readsSeveral 26 = .ok (.invokevirtual 249, 3) := by decide +kernel
theorem dX11_readsSeveral_29 : decode cX11_readsSeveral 29 = .ok (.ifCond .ne 5, 3) := by decide +kernel
theorem dX11_readsSeveral_32 : decode cX11_readsSeveral 32 = .ok (.iconst 0, 1) := by decide +kernel
theorem dX11_readsSeveral_33 : decode cX11_readsSeveral 33 = .ok (.ireturn, 1) := by decide +kernel
theorem dX11_readsSeveral_34 : decode cX11_readsSeveral 34 = .ok (.iinc 2 1, 3) := by decide +kernel
theorem dX11_readsSeveral_37 : decode cX11_readsSeveral 37 = .ok (.aload_n 0, 1) := by decide +kernel
theorem dX11_readsSeveral_38 : decode cX11_readsSeveral 38 = .ok (.invokevirtual 167, 3) := by decide +kernel
theorem dX11_readsSeveral_41 : decode cX11_readsSeveral 41 = .ok (.bipush 44, 2) := by decide +kernel
theorem dX11_readsSeveral_43 : decode cX11_readsSeveral 43 = .ok (.if_icmp .eq (-32), 3) := by decide +kernel
theorem dX11_readsSeveral_46 : decode cX11_readsSeveral 46 = .ok (.aload_n 0, 1) := by decide +kernel
theorem dX11_readsSeveral_47 : decode cX11_readsSeveral 47 = .ok (.iconst 3, 1) := by decide +kernel
theorem dX11_readsSeveral_48 : decode cX11_readsSeveral 48 = .ok (.sipush 1000, 3) := by decide +kernel
theorem dX11_readsSeveral_51 : decode cX11_readsSeveral 51 = .ok (.iload_n 1, 1) := by decide +kernel
theorem dX11_readsSeveral_52 : decode cX11_readsSeveral 52 = .ok (.imul, 1) := by decide +kernel
theorem dX11_readsSeveral_53 : decode cX11_readsSeveral 53 = .ok (.iload_n 2, 1) := by decide +kernel
theorem dX11_readsSeveral_54 : decode cX11_readsSeveral 54 = .ok (.iadd, 1) := by decide +kernel
theorem dX11_readsSeveral_55 : decode cX11_readsSeveral 55 = .ok (.invokevirtual 252, 3) := by decide +kernel
theorem dX11_readsSeveral_58 : decode cX11_readsSeveral 58 = .ok (.aload_n 0, 1) := by decide +kernel
theorem dX11_readsSeveral_59 : decode cX11_readsSeveral 59 = .ok (.invokevirtual 228, 3) := by decide +kernel
theorem dX11_readsSeveral_62 : decode cX11_readsSeveral 62 = .ok (.ireturn, 1) := by decide +kernel
theorem dX11_readsSingle_0 : decode cX11_readsSingle 0 = .ok (.aload_n 0, 1) := by decide +kernel
theorem dX11_readsSingle_1 : decode cX11_readsSingle 1 = .ok (.invokevirtual 167, 3) := by decide +kernel
theorem dX11_readsSingle_4 : decode cX11_readsSingle 4 = .ok (.bipush 40, 2) := by decide +kernel
theorem dX11_readsSingle_6 : decode cX11_readsSingle 6 = .ok (.if_icmp .ne 30, 3) := by decide +kernel
theorem dX11_readsSingle_9 : decode cX11_readsSingle 9 = .ok (.aload_n 0, 1) := by decide +kernel
theorem dX11_readsSingle_10 : decode cX11_readsSingle 10 = .ok (.invokevirtual 222, 3) := by decide +kernel
theorem dX11_readsSingle_13 : decode cX11_readsSingle 13 = .ok (.ifCond .eq 21, 3) := by decide +kernel
theorem dX11_readsSingle_16 : decode cX11_readsSingle 16 = .ok (.aload_n 0, 1) := by decide +kernel
theorem dX11_readsSingle_17 : decode cX11_readsSingle 17 = .ok (.invokevirtual 249, 3) := by decide +kernel
theorem dX11_readsSingle_20 : decode cX11_readsSingle 20 = .ok (.ifCond .eq 14, 3) := by decide +kernel
theorem dX11_readsSingle_23 : decode cX11_readsSingle 23 = .ok (.aload_n 0, 1) := by decide +kernel
theorem dX11_readsSingle_24 : decode cX11_readsSingle 24 = .ok (.invokevirtual 228, 3) := by decide +kernel
theorem dX11_readsSingle_27 : decode cX11_readsSingle 27 = .ok (.ifCond .eq 7, 3) := by decide +kernel
theorem dX11_readsSingle_30 : decode cX11_readsSingle 30 = .ok (.iconst 1, 1) := by decide +kernel
theorem dX11_readsSingle_31 : decode cX11_readsSingle 31 = .ok (.goto 4, 3) := by decide +kernel
theorem dX11_readsSingle_34 : decode cX11_readsSingle 34 = .ok (.iconst 0, 1) := by decide +kernel
theorem dX11_readsSingle_35 : decode cX11_readsSingle 35 = .ok (.ireturn, 1) := by decide +kernel
theorem dX11_readsSingle_36 : decode cX11_readsSingle 36 = .ok (.aload_n 0, 1) := by decide +kernel
theorem dX11_readsSingle_37 : decode cX11_readsSingle 37 = .ok (.invokevirtual 195, 3) := by decide +kernel
theorem dX11_readsSingle_40 : decode cX11_readsSingle 40 = .ok (.ifCond .ne 5, 3) := by decide +kernel
theorem dX11_readsSingle_43 : decode cX11_readsSingle 43 = .ok (.iconst 0, 1) := by decide +kernel
theorem dX11_readsSingle_44 : decode cX11_readsSingle 44 = .ok (.ireturn, 1) := by decide +kernel
theorem dX11_readsSingle_45 : decode cX11_readsSingle 45 = .ok (.aload_n 0, 1) := by decide +kernel
theorem dX11_readsSingle_46 : decode cX11_readsSingle 46 = .ok (.getfield 191, 3) := by decide +kernel
theorem dX11_readsSingle_49 : decode cX11_readsSingle 49 = .ok (.istore_n 1, 1) := by decide +kernel
theorem dX11_readsSingle_50 : decode cX11_readsSingle 50 = .ok (.aload_n 0, 1) := by decide +kernel
theorem dX11_readsSingle_51 : decode cX11_readsSingle 51 = .ok (.getfield 188, 3) := by decide +kernel
theorem dX11_readsSingle_54 : decode cX11_readsSingle 54 = .ok (.istore_n 2, 1) := by decide +kernel
theorem dX11_readsSingle_55 : decode cX11_readsSingle 55 = .ok (.aload_n 0, 1) := by decide +kernel
theorem dX11_readsSingle_56 : decode cX11_readsSingle 56 = .ok (.ldc 255, 2) := by decide +kernel
theorem dX11_readsSingle_58 : decode cX11_readsSingle 58 = .ok (.invokevirtual 209, 3) := by decide +kernel
theorem dX11_readsSingle_61 : decode cX11_readsSingle 61 = .ok (.ifCond .eq 29, 3) := by decide +kernel
theorem dX11_readsSingle_64 : decode cX11_readsSingle 64 = .ok (.iload_n 1, 1) := by decide +kernel
theorem dX11_readsSingle_65 : decode cX11_readsSingle 65 = .ok (.iconst 1, 1) := by decide +kernel
theorem dX11_readsSingle_66 : decode cX11_readsSingle 66 = .ok (.bipush 6, 2) := by decide +kernel
theorem dX11_readsSingle_68 : decode cX11_readsSingle 68 = .ok (.invokestatic 199, 3) := by decide +kernel
theorem dX11_readsSingle_71 : decode cX11_readsSingle 71 = .ok (.ifCond .eq 11, 3) := by decide +kernel
theorem dX11_readsSingle_74 : decode cX11_readsSingle 74 = .ok (.aload_n 0, 1) := by decide +kernel
theorem dX11_readsSingle_75 : decode cX11_readsSingle 75 = .ok (.iload_n 1, 1) := by decide +kernel
theorem dX11_readsSingle_76 : decode cX11_readsSingle 76 = .ok (.invokevirtual 257, 3) := by decide +kernel
theorem dX11_readsSingle_79 : decode cX11_readsSingle 79 = .ok (.goto 10, 3) := by decide +kernel
theorem dX11_readsSingle_82 : decode cX11_readsSingle 82 = .ok (.aload_n 0, 1) := by decide +kernel
theorem dX11_readsSingle_83 : decode cX11_readsSingle 83 = .ok (.bipush (-3), 2) := by decide +kernel
theorem dX11_readsSingle_85 : decode cX11_readsSingle 85 = .ok (.iload_n 2, 1) := by decide +kernel
theorem dX11_readsSingle_86 : decode cX11_readsSingle 86 = .ok (.invokevirtual 182, 3) := by decide +kernel
theorem dX11_readsSingle_89 : decode cX11_readsSingle 89 = .ok (.ireturn, 1) := by decide +kernel
theorem dX11_readsSingle_90 : decode cX11_readsSingle 90 = .ok (.iload_n 1, 1) := by decide +kernel
theorem dX11_readsSingle_91 : decode cX11_readsSingle 91 = .ok (.iconst 0, 1) := by decide +kernel
theorem dX11_readsSingle_92 : decode cX11_readsSingle 92 = .ok (.aload_n 0, 1) := by decide +kernel
theorem dX11_readsSingle_93 : decode cX11_readsSingle 93 = .ok (.getfield 260, 3) := by decide +kernel
theorem dX11_readsSingle_96 : decode cX11_readsSingle 96 = .ok (.iconst 1, 1) := by decide +kernel
theorem dX11_readsSingle_97 : decode cX11_readsSingle 97 = .ok (.isub, 1) := by decide +kernel
theorem dX11_readsSingle_98 : decode cX11_readsSingle 98 = .ok (.invokestatic 199, 3) := by decide +kernel
theorem dX11_readsSingle_101 : decode cX11_readsSingle 101 = .ok (.ifCond .ne 11, 3) := by decide +kernel
theorem dX11_readsSingle_104 : decode cX11_readsSingle 104 = .ok (.aload_n 0, 1) := by decide +kernel
theorem dX11_readsSingle_105 : decode cX11_readsSingle 105 = .ok (.bipush (-3), 2) := by decide +kernel
theorem dX11_readsSingle_107 : decode cX11_readsSingle 107 = .ok (.iload_n 2, 1) := by decide +kernel
theorem dX11_readsSingle_108 : decode cX11_readsSingle 108 = .ok (.invokevirtual 182, 3) := by decide +kernel
theorem dX11_readsSingle_111 : decode cX11_readsSingle 111 = .ok (.ireturn, 1) := by decide +kernel
theorem dX11_readsSingle_112 : decode cX11_readsSingle 112 = .ok (.aload_n 0, 1) := by decide +kernel
theorem dX11_readsSingle_113 : decode cX11_readsSingle 113 = .ok (.iconst 0, 1) := by decide +kernel
theorem dX11_readsSingle_114 : decode cX11_readsSingle 114 = .ok (.iload_n 1, 1) := by decide +kernel
theorem dX11_readsSingle_115 : decode cX11_readsSingle 115 = .ok (.invokevirtual 252, 3) := by decide +kernel
theorem dX11_readsSingle_118 : decode cX11_readsSingle 118 = .ok (.iconst 1, 1) := by decide +kernel
theorem dX11_readsSingle_119 : decode cX11_readsSingle 119 = .ok (.ireturn, 1) := by decide +kernel
theorem dX11_readsAll_0 : decode cX11_readsAll 0 = .ok (.aload_n 0, 1) := by decide +kernel
theorem dX11_readsAll_1 : decode cX11_readsAll 1 = .ok (.invokevirtual 263, 3) := by decide +kernel
theorem dX11_readsAll_4 : decode cX11_readsAll 4 = .ok (.ifCond .ne 5, 3) := by decide +kernel
theorem dX11_readsAll_7 : decode cX11_readsAll 7 = .ok (.iconst 0, 1) := by decide +kernel
theorem dX11_readsAll_8 : decode cX11_readsAll 8 = .ok (.ireturn, 1) := by decide +kernel
theorem dX11_readsAll_9 : decode cX11_readsAll 9 = .ok (.aload_n 0, 1) := by decide +kernel
theorem dX11_readsAll_10 : decode cX11_readsAll 10 = .ok (.ldc_w 266, 3) := by decide +kernel
theorem dX11_readsAll_13 : decode cX11_readsAll 13 = .ok (.invokevirtual 209, 3) := by decide +kernel
theorem dX11_readsAll_16 : decode cX11_readsAll 16 = .ok (.ifCond .eq 21, 3) := by decide +kernel
theorem dX11_readsAll_19 : decode cX11_readsAll 19 = .ok (.aload_n 0, 1) := by decide +kernel
theorem dX11_readsAll_20 : decode cX11_readsAll 20 = .ok (.invokevirtual 263, 3) := by decide +kernel
theorem dX11_readsAll_23 : decode cX11_readsAll 23 = .ok (.ifCond .ne 5, 3) := by decide +kernel
theorem dX11_readsAll_26 : decode cX11_readsAll 26 = .ok (.iconst 0, 1) := by decide +kernel
theorem dX11_readsAll_27 : decode cX11_readsAll 27 = .ok (.ireturn, 1) := by decide +kernel
theorem dX11_readsAll_28 : decode cX11_readsAll 28 = .ok (.aload_n 0, 1) := by decide +kernel
theorem dX11_readsAll_29 : decode cX11_readsAll 29 = .ok (.iconst 1, 1) := by decide +kernel
theorem dX11_readsAll_30 : decode cX11_readsAll 30 = .ok (.iconst 0, 1) := by decide +kernel
theorem dX11_readsAll_31 : decode cX11_readsAll 31 = .ok (.invokevirtual 252, 3) := by decide +kernel
theorem dX11_readsAll_34 : decode cX11_readsAll 34 = .ok (.goto (-25), 3) := by decide +kernel
theorem dX11_readsAll_37 : decode cX11_readsAll 37 = .ok (.iconst 1, 1) := by decide +kernel
theorem dX11_readsAll_38 : decode cX11_readsAll 38 = .ok (.ireturn, 1) := by decide +kernel
theorem dX11_readsGoal_0 : decode cX11_readsGoal 0 = .ok (.aload_n 0, 1) := by decide +kernel
theorem dX11_readsGoal_1 : decode cX11_readsGoal 1 = .ok (.invokevirtual 268, 3) := by decide +kernel
theorem dX11_readsGoal_4 : decode cX11_readsGoal 4 = .ok (.ifCond .ne 5, 3) := by decide +kernel
theorem dX11_readsGoal_7 : decode cX11_readsGoal 7 = .ok (.iconst 0, 1) := by decide +kernel
theorem dX11_readsGoal_8 : decode cX11_readsGoal 8 = .ok (.ireturn, 1) := by decide +kernel
theorem dX11_readsGoal_9 : decode cX11_readsGoal 9 = .ok (.aload_n 0, 1) := by decide +kernel
theorem dX11_readsGoal_10 : decode cX11_readsGoal 10 = .ok (.ldc_w 271, 3) := by decide +kernel
theorem dX11_readsGoal_13 : decode cX11_readsGoal 13 = .ok (.invokevirtual 209, 3) := by decide +kernel
theorem dX11_readsGoal_16 : decode cX11_readsGoal 16 = .ok (.ifCond .eq 21, 3) := by decide +kernel
theorem dX11_readsGoal_19 : decode cX11_readsGoal 19 = .ok (.aload_n 0, 1) := by decide +kernel
theorem dX11_readsGoal_20 : decode cX11_readsGoal 20 = .ok (.invokevirtual 268, 3) := by decide +kernel
theorem dX11_readsGoal_23 : decode cX11_readsGoal 23 = .ok (.ifCond .ne 5, 3) := by decide +kernel
theorem dX11_readsGoal_26 : decode cX11_readsGoal 26 = .ok (.iconst 0, 1) := by decide +kernel
theorem dX11_readsGoal_27 : decode cX11_readsGoal 27 = .ok (.ireturn, 1) := by decide +kernel
theorem dX11_readsGoal_28 : decode cX11_readsGoal 28 = .ok (.aload_n 0, 1) := by decide +kernel
theorem dX11_readsGoal_29 : decode cX11_readsGoal 29 = .ok (.iconst 2, 1) := by decide +kernel
theorem dX11_readsGoal_30 : decode cX11_readsGoal 30 = .ok (.iconst 0, 1) := by decide +kernel
theorem dX11_readsGoal_31 : decode cX11_readsGoal 31 = .ok (.invokevirtual 252, 3) := by decide +kernel
theorem dX11_readsGoal_34 : decode cX11_readsGoal 34 = .ok (.goto (-25), 3) := by decide +kernel
theorem dX11_readsGoal_37 : decode cX11_readsGoal 37 = .ok (.iconst 1, 1) := by decide +kernel
theorem dX11_readsGoal_38 : decode cX11_readsGoal 38 = .ok (.ireturn, 1) := by decide +kernel
theorem dX11_readsStock_0 : decode cX11_readsStock 0 = .ok (.aload_n 0, 1) := by decide +kernel
theorem dX11_readsStock_1 : decode cX11_readsStock 1 = .ok (.iconst 0, 1) := by decide +kernel
theorem dX11_readsStock_2 : decode cX11_readsStock 2 = .ok (.bipush 7, 2) := by decide +kernel
theorem dX11_readsStock_4 : decode cX11_readsStock 4 = .ok (.invokevirtual 234, 3) := by decide +kernel
theorem dX11_readsStock_7 : decode cX11_readsStock 7 = .ok (.ifCond .ne 5, 3) := by decide +kernel
theorem dX11_readsStock_10 : decode cX11_readsStock 10 = .ok (.iconst 0, 1) := by decide +kernel
theorem dX11_readsStock_11 : decode cX11_readsStock 11 = .ok (.ireturn, 1) := by decide +kernel
theorem dX11_readsStock_12 : decode cX11_readsStock 12 = .ok (.aload_n 0, 1) := by decide +kernel
theorem dX11_readsStock_13 : decode cX11_readsStock 13 = .ok (.getfield 191, 3) := by decide +kernel
theorem dX11_readsStock_16 : decode cX11_readsStock 16 = .ok (.istore_n 1, 1) := by decide +kernel
theorem dX11_readsStock_17 : decode cX11_readsStock 17 = .ok (.aload_n 0, 1) := by decide +kernel
theorem dX11_readsStock_18 : decode cX11_readsStock 18 = .ok (.getfield 273, 3) := by decide +kernel
theorem dX11_readsStock_21 : decode cX11_readsStock 21 = .ok (.iload_n 1, 1) := by decide +kernel
theorem dX11_readsStock_22 : decode cX11_readsStock 22 = .ok (.ishr, 1) := by decide +kernel
theorem dX11_readsStock_23 : decode cX11_readsStock 23 = .ok (.iconst 1, 1) := by decide +kernel
theorem dX11_readsStock_24 : decode cX11_readsStock 24 = .ok (.iand, 1) := by decide +kernel
theorem dX11_readsStock_25 : decode cX11_readsStock 25 = .ok (.iconst 1, 1) := by decide +kernel
theorem dX11_readsStock_26 : decode cX11_readsStock 26 = .ok (.if_icmp .ne 14, 3) := by decide +kernel
theorem dX11_readsStock_29 : decode cX11_readsStock 29 = .ok (.aload_n 0, 1) := by decide +kernel
theorem dX11_readsStock_30 : decode cX11_readsStock 30 = .ok (.bipush (-4), 2) := by decide +kernel
theorem dX11_readsStock_32 : decode cX11_readsStock 32 = .ok (.aload_n 0, 1) := by decide +kernel
theorem dX11_readsStock_33 : decode cX11_readsStock 33 = .ok (.getfield 188, 3) := by decide +kernel
theorem dX11_readsStock_36 : decode cX11_readsStock 36 = .ok (.invokevirtual 182, 3) := by decide +kernel
theorem dX11_readsStock_39 : decode cX11_readsStock 39 = .ok (.ireturn, 1) := by decide +kernel
theorem dX11_readsStock_40 : decode cX11_readsStock 40 = .ok (.aload_n 0, 1) := by decide +kernel
theorem dX11_readsStock_41 : decode cX11_readsStock 41 = .ok (.dup, 1) := by decide +kernel
theorem dX11_readsStock_42 : decode cX11_readsStock 42 = .ok (.getfield 273, 3) := by decide +kernel
theorem dX11_readsStock_45 : decode cX11_readsStock 45 = .ok (.iconst 1, 1) := by decide +kernel
theorem dX11_readsStock_46 : decode cX11_readsStock 46 = .ok (.iload_n 1, 1) := by decide +kernel
theorem dX11_readsStock_47 : decode cX11_readsStock 47 = .ok (.ishl, 1) := by decide +kernel
theorem dX11_readsStock_48 : decode cX11_readsStock 48 = .ok (.ior, 1) := by decide +kernel
theorem dX11_readsStock_49 : decode cX11_readsStock 49 = .ok (.putfield 273, 3) := by decide +kernel
theorem dX11_readsStock_52 : decode cX11_readsStock 52 = .ok (.aload_n 0, 1) := by decide +kernel
theorem dX11_readsStock_53 : decode cX11_readsStock 53 = .ok (.iconst 0, 1) := by decide +kernel
theorem dX11_readsStock_54 : decode cX11_readsStock 54 = .ok (.sipush 999, 3) := by decide +kernel
theorem dX11_readsStock_57 : decode cX11_readsStock 57 = .ok (.invokevirtual 234, 3) := by decide +kernel
theorem dX11_readsStock_60 : decode cX11_readsStock 60 = .ok (.ifCond .ne 5, 3) := by decide +kernel
theorem dX11_readsStock_63 : decode cX11_readsStock 63 = .ok (.iconst 0, 1) := by decide +kernel
theorem dX11_readsStock_64 : decode cX11_readsStock 64 = .ok (.ireturn, 1) := by decide +kernel
theorem dX11_readsStock_65 : decode cX11_readsStock 65 = .ok (.aload_n 0, 1) := by decide +kernel
theorem dX11_readsStock_66 : decode cX11_readsStock 66 = .ok (.getfield 14, 3) := by decide +kernel
theorem dX11_readsStock_69 : decode cX11_readsStock 69 = .ok (.iconst 5, 1) := by decide +kernel
theorem dX11_readsStock_70 : decode cX11_readsStock 70 = .ok (.iload_n 1, 1) := by decide +kernel
theorem dX11_readsStock_71 : decode cX11_readsStock 71 = .ok (.iadd, 1) := by decide +kernel
theorem dX11_readsStock_72 : decode cX11_readsStock 72 = .ok (.aload_n 0, 1) := by decide +kernel
theorem dX11_readsStock_73 : decode cX11_readsStock 73 = .ok (.getfield 191, 3) := by decide +kernel
theorem dX11_readsStock_76 : decode cX11_readsStock 76 = .ok (.iastore, 1) := by decide +kernel
theorem dX11_readsStock_77 : decode cX11_readsStock 77 = .ok (.aload_n 0, 1) := by decide +kernel
theorem dX11_readsStock_78 : decode cX11_readsStock 78 = .ok (.invokevirtual 231, 3) := by decide +kernel
theorem dX11_readsStock_81 : decode cX11_readsStock 81 = .ok (.ifCond .ne (-81), 3) := by decide +kernel
theorem dX11_readsStock_84 : decode cX11_readsStock 84 = .ok (.iconst 1, 1) := by decide +kernel
theorem dX11_readsStock_85 : decode cX11_readsStock 85 = .ok (.ireturn, 1) := by decide +kernel
theorem dX11_readsAmounts_0 : decode cX11_readsAmounts 0 = .ok (.aload_n 0, 1) := by decide +kernel
theorem dX11_readsAmounts_1 : decode cX11_readsAmounts 1 = .ok (.iconst 0, 1) := by decide +kernel
theorem dX11_readsAmounts_2 : decode cX11_readsAmounts 2 = .ok (.bipush 7, 2) := by decide +kernel
theorem dX11_readsAmounts_4 : decode cX11_readsAmounts 4 = .ok (.invokevirtual 234, 3) := by decide +kernel
theorem dX11_readsAmounts_7 : decode cX11_readsAmounts 7 = .ok (.ifCond .ne 5, 3) := by decide +kernel
theorem dX11_readsAmounts_10 : decode cX11_readsAmounts 10 = .ok (.iconst 0, 1) := by decide +kernel
theorem dX11_readsAmounts_11 : decode cX11_readsAmounts 11 = .ok (.ireturn, 1) := by decide +kernel
theorem dX11_readsAmounts_12 : decode cX11_readsAmounts 12 = .ok (.aload_n 0, 1) := by decide +kernel
theorem dX11_readsAmounts_13 : decode cX11_readsAmounts 13 = .ok (.getfield 191, 3) := by decide +kernel
theorem dX11_readsAmounts_16 : decode cX11_readsAmounts 16 = .ok (.istore_n 2, 1) := by decide +kernel
theorem dX11_readsAmounts_17 : decode cX11_readsAmounts 17 = .ok (.aload_n 0, 1) := by decide +kernel
theorem dX11_readsAmounts_18 : decode cX11_readsAmounts 18 = .ok (.getfield 14, 3) := by decide +kernel
theorem dX11_readsAmounts_21 : decode cX11_readsAmounts 21 = .ok (.iload_n 1, 1) := by decide +kernel
theorem dX11_readsAmounts_22 : decode cX11_readsAmounts 22 = .ok (.iload_n 2, 1) := by decide +kernel
theorem dX11_readsAmounts_23 : decode cX11_readsAmounts 23 = .ok (.iadd, 1) := by decide +kernel
theorem dX11_readsAmounts_24 : decode cX11_readsAmounts 24 = .ok (.iaload, 1) := by decide +kernel
theorem dX11_readsAmounts_25 : decode cX11_readsAmounts 25 = .ok (.ifCond .le 14, 3) := by decide +kernel
theorem dX11_readsAmounts_28 : decode cX11_readsAmounts 28 = .ok (.aload_n 0, 1) := by decide +kernel
theorem dX11_readsAmounts_29 : decode cX11_readsAmounts 29 = .ok (.bipush (-4), 2) := by decide +kernel
theorem dX11_readsAmounts_31 : decode cX11_readsAmounts 31 = .ok (.aload_n 0, 1) := by decide +kernel
theorem dX11_readsAmounts_32 : decode cX11_readsAmounts 32 = .ok (.getfield 188, 3) := by decide +kernel
theorem dX11_readsAmounts_35 : decode cX11_readsAmounts 35 = .ok (.invokevirtual 182, 3) := by decide +kernel
theorem dX11_readsAmounts_38 : decode cX11_readsAmounts 38 = .ok (.ireturn, 1) := by decide +kernel
theorem dX11_readsAmounts_39 : decode cX11_readsAmounts 39 = .ok (.aload_n 0, 1) := by decide +kernel
theorem dX11_readsAmounts_40 : decode cX11_readsAmounts 40 = .ok (.iconst 1, 1) := by decide +kernel
theorem dX11_readsAmounts_41 : decode cX11_readsAmounts 41 = .ok (.bipush 99, 2) := by decide +kernel
theorem dX11_readsAmounts_43 : decode cX11_readsAmounts 43 = .ok (.invokevirtual 234, 3) := by decide +kernel
theorem dX11_readsAmounts_46 : decode cX11_readsAmounts 46 = .ok (.ifCond .ne 5, 3) := by decide +kernel
theorem dX11_readsAmounts_49 : decode cX11_readsAmounts 49 = .ok (.iconst 0, 1) := by decide +kernel
theorem dX11_readsAmounts_50 : decode cX11_readsAmounts 50 = .ok (.ireturn, 1) := by decide +kernel
theorem dX11_readsAmounts_51 : decode cX11_readsAmounts 51 = .ok (.aload_n 0, 1) := by decide +kernel
theorem dX11_readsAmounts_52 : decode cX11_readsAmounts 52 = .ok (.getfield 14, 3) := by decide +kernel
theorem dX11_readsAmounts_55 : decode cX11_readsAmounts 55 = .ok (.iload_n 1, 1) := by decide +kernel
theorem dX11_readsAmounts_56 : decode cX11_readsAmounts 56 = .ok (.iload_n 2, 1) := by decide +kernel
theorem dX11_readsAmounts_57 : decode cX11_readsAmounts 57 = .ok (.iadd, 1) := by decide +kernel
theorem dX11_readsAmounts_58 : decode cX11_readsAmounts 58 = .ok (.aload_n 0, 1) := by decide +kernel
theorem dX11_readsAmounts_59 : decode cX11_readsAmounts 59 = .ok (.getfield 191, 3) := by decide +kernel
theorem dX11_readsAmounts_62 : decode cX11_readsAmounts 62 = .ok (.iastore, 1) := by decide +kernel
theorem dX11_readsAmounts_63 : decode cX11_readsAmounts 63 = .ok (.aload_n 0, 1) := by decide +kernel
theorem dX11_readsAmounts_64 : decode cX11_readsAmounts 64 = .ok (.invokevirtual 231, 3) := by decide +kernel
theorem dX11_readsAmounts_67 : decode cX11_readsAmounts 67 = .ok (.ifCond .ne (-67), 3) := by decide +kernel
theorem dX11_readsAmounts_70 : decode cX11_readsAmounts 70 = .ok (.iconst 1, 1) := by decide +kernel
theorem dX11_readsAmounts_71 : decode cX11_readsAmounts 71 = .ok (.ireturn, 1) := by decide +kernel
theorem dX11_readsAfter_0 : decode cX11_readsAfter 0 = .ok (.aload_n 0, 1) := by decide +kernel
theorem dX11_readsAfter_1 : decode cX11_readsAfter 1 = .ok (.iconst 0, 1) := by decide +kernel
theorem dX11_readsAfter_2 : decode cX11_readsAfter 2 = .ok (.aload_n 0, 1) := by decide +kernel
theorem dX11_readsAfter_3 : decode cX11_readsAfter 3 = .ok (.getfield 260, 3) := by decide +kernel
theorem dX11_readsAfter_6 : decode cX11_readsAfter 6 = .ok (.iconst 1, 1) := by decide +kernel
theorem dX11_readsAfter_7 : decode cX11_readsAfter 7 = .ok (.isub, 1) := by decide +kernel
theorem dX11_readsAfter_8 : decode cX11_readsAfter 8 = .ok (.invokevirtual 234, 3) := by decide +kernel
theorem dX11_readsAfter_11 : decode cX11_readsAfter 11 = .ok (.ifCond .ne 5, 3) := by decide +kernel
theorem dX11_readsAfter_14 : decode cX11_readsAfter 14 = .ok (.iconst 0, 1) := by decide +kernel
theorem dX11_readsAfter_15 : decode cX11_readsAfter 15 = .ok (.ireturn, 1) := by decide +kernel
theorem dX11_readsAfter_16 : decode cX11_readsAfter 16 = .ok (.aload_n 0, 1) := by decide +kernel
theorem dX11_readsAfter_17 : decode cX11_readsAfter 17 = .ok (.getfield 14, 3) := by decide +kernel
theorem dX11_readsAfter_20 : decode cX11_readsAfter 20 = .ok (.iload_n 1, 1) := by decide +kernel
theorem dX11_readsAfter_21 : decode cX11_readsAfter 21 = .ok (.iconst 4, 1) := by decide +kernel
theorem dX11_readsAfter_22 : decode cX11_readsAfter 22 = .ok (.iadd, 1) := by decide +kernel
theorem dX11_readsAfter_23 : decode cX11_readsAfter 23 = .ok (.iaload, 1) := by decide +kernel
theorem dX11_readsAfter_24 : decode cX11_readsAfter 24 = .ok (.aload_n 0, 1) := by decide +kernel
theorem dX11_readsAfter_25 : decode cX11_readsAfter 25 = .ok (.getfield 191, 3) := by decide +kernel
theorem dX11_readsAfter_28 : decode cX11_readsAfter 28 = .ok (.ishr, 1) := by decide +kernel
theorem dX11_readsAfter_29 : decode cX11_readsAfter 29 = .ok (.iconst 1, 1) := by decide +kernel
theorem dX11_readsAfter_30 : decode cX11_readsAfter 30 = .ok (.iand, 1) := by decide +kernel
theorem dX11_readsAfter_31 : decode cX11_readsAfter 31 = .ok (.iconst 1, 1) := by decide +kernel
theorem dX11_readsAfter_32 : decode cX11_readsAfter 32 = .ok (.if_icmp .ne 14, 3) := by decide +kernel
theorem dX11_readsAfter_35 : decode cX11_readsAfter 35 = .ok (.aload_n 0, 1) := by decide +kernel
theorem dX11_readsAfter_36 : decode cX11_readsAfter 36 = .ok (.bipush (-4), 2) := by decide +kernel
theorem dX11_readsAfter_38 : decode cX11_readsAfter 38 = .ok (.aload_n 0, 1) := by decide +kernel
theorem dX11_readsAfter_39 : decode cX11_readsAfter 39 = .ok (.getfield 188, 3) := by decide +kernel
theorem dX11_readsAfter_42 : decode cX11_readsAfter 42 = .ok (.invokevirtual 182, 3) := by decide +kernel
theorem dX11_readsAfter_45 : decode cX11_readsAfter 45 = .ok (.ireturn, 1) := by decide +kernel
theorem dX11_readsAfter_46 : decode cX11_readsAfter 46 = .ok (.aload_n 0, 1) := by decide +kernel
theorem dX11_readsAfter_47 : decode cX11_readsAfter 47 = .ok (.getfield 14, 3) := by decide +kernel
theorem dX11_readsAfter_50 : decode cX11_readsAfter 50 = .ok (.iload_n 1, 1) := by decide +kernel
theorem dX11_readsAfter_51 : decode cX11_readsAfter 51 = .ok (.iconst 4, 1) := by decide +kernel
theorem dX11_readsAfter_52 : decode cX11_readsAfter 52 = .ok (.iadd, 1) := by decide +kernel
theorem dX11_readsAfter_53 : decode cX11_readsAfter 53 = .ok (.dup2, 1) := by decide +kernel
theorem dX11_readsAfter_54 : decode cX11_readsAfter 54 = .ok (.iaload, 1) := by decide +kernel
theorem dX11_readsAfter_55 : decode cX11_readsAfter 55 = .ok (.iconst 1, 1) := by decide +kernel
theorem dX11_readsAfter_56 : decode cX11_readsAfter 56 = .ok (.aload_n 0, 1) := by decide +kernel
theorem dX11_readsAfter_57 : decode cX11_readsAfter 57 = .ok (.getfield 191, 3) := by decide +kernel
theorem dX11_readsAfter_60 : decode cX11_readsAfter 60 = .ok (.ishl, 1) := by decide +kernel
theorem dX11_readsAfter_61 : decode cX11_readsAfter 61 = .ok (.ior, 1) := by decide +kernel
theorem dX11_readsAfter_62 : decode cX11_readsAfter 62 = .ok (.iastore, 1) := by decide +kernel
theorem dX11_readsAfter_63 : decode cX11_readsAfter 63 = .ok (.aload_n 0, 1) := by decide +kernel
theorem dX11_readsAfter_64 : decode cX11_readsAfter 64 = .ok (.invokevirtual 231, 3) := by decide +kernel
theorem dX11_readsAfter_67 : decode cX11_readsAfter 67 = .ok (.ifCond .ne (-67), 3) := by decide +kernel
theorem dX11_readsAfter_70 : decode cX11_readsAfter 70 = .ok (.iconst 1, 1) := by decide +kernel
theorem dX11_readsAfter_71 : decode cX11_readsAfter 71 = .ok (.ireturn, 1) := by decide +kernel
theorem dX11_readsPart_0 : decode cX11_readsPart 0 = .ok (.aload_n 0, 1) := by decide +kernel
theorem dX11_readsPart_1 : decode cX11_readsPart 1 = .ok (.ldc_w 276, 3) := by decide +kernel
theorem dX11_readsPart_4 : decode cX11_readsPart 4 = .ok (.invokevirtual 209, 3) := by decide +kernel
theorem dX11_readsPart_7 : decode cX11_readsPart 7 = .ok (.ifCond .eq 12, 3) := by decide +kernel
theorem dX11_readsPart_10 : decode cX11_readsPart 10 = .ok (.aload_n 0, 1) := by decide +kernel
theorem dX11_readsPart_11 : decode cX11_readsPart 11 = .ok (.iload_n 1, 1) := by decide +kernel
theorem dX11_readsPart_12 : decode cX11_readsPart 12 = .ok (.bipush 6, 2) := by decide +kernel
theorem dX11_readsPart_14 : decode cX11_readsPart 14 = .ok (.iadd, 1) := by decide +kernel
theorem dX11_readsPart_15 : decode cX11_readsPart 15 = .ok (.invokevirtual 278, 3) := by decide +kernel
theorem dX11_readsPart_18 : decode cX11_readsPart 18 = .ok (.ireturn, 1) := by decide +kernel
theorem dX11_readsPart_19 : decode cX11_readsPart 19 = .ok (.aload_n 0, 1) := by decide +kernel
theorem dX11_readsPart_20 : decode cX11_readsPart 20 = .ok (.ldc_w 281, 3) := by decide +kernel
theorem dX11_readsPart_23 : decode cX11_readsPart 23 = .ok (.invokevirtual 209, 3) := by decide +kernel
theorem dX11_readsPart_26 : decode cX11_readsPart 26 = .ok (.ifCond .eq 12, 3) := by decide +kernel
theorem dX11_readsPart_29 : decode cX11_readsPart 29 = .ok (.aload_n 0, 1) := by decide +kernel
theorem dX11_readsPart_30 : decode cX11_readsPart 30 = .ok (.iload_n 1, 1) := by decide +kernel
theorem dX11_readsPart_31 : decode cX11_readsPart 31 = .ok (.bipush 14, 2) := by decide +kernel
theorem dX11_readsPart_33 : decode cX11_readsPart 33 = .ok (.iadd, 1) := by decide +kernel
theorem dX11_readsPart_34 : decode cX11_readsPart 34 = .ok (.invokevirtual 278, 3) := by decide +kernel
theorem dX11_readsPart_37 : decode cX11_readsPart 37 = .ok (.ireturn, 1) := by decide +kernel
theorem dX11_readsPart_38 : decode cX11_readsPart 38 = .ok (.aload_n 0, 1) := by decide +kernel
theorem dX11_readsPart_39 : decode cX11_readsPart 39 = .ok (.ldc_w 283, 3) := by decide +kernel
theorem dX11_readsPart_42 : decode cX11_readsPart 42 = .ok (.invokevirtual 209, 3) := by decide +kernel
theorem dX11_readsPart_45 : decode cX11_readsPart 45 = .ok (.ifCond .eq 12, 3) := by decide +kernel
theorem dX11_readsPart_48 : decode cX11_readsPart 48 = .ok (.aload_n 0, 1) := by decide +kernel
theorem dX11_readsPart_49 : decode cX11_readsPart 49 = .ok (.iload_n 1, 1) := by decide +kernel
theorem dX11_readsPart_50 : decode cX11_readsPart 50 = .ok (.bipush 22, 2) := by decide +kernel
theorem dX11_readsPart_52 : decode cX11_readsPart 52 = .ok (.iadd, 1) := by decide +kernel
theorem dX11_readsPart_53 : decode cX11_readsPart 53 = .ok (.invokevirtual 278, 3) := by decide +kernel
theorem dX11_readsPart_56 : decode cX11_readsPart 56 = .ok (.ireturn, 1) := by decide +kernel
theorem dX11_readsPart_57 : decode cX11_readsPart 57 = .ok (.aload_n 0, 1) := by decide +kernel
theorem dX11_readsPart_58 : decode cX11_readsPart 58 = .ok (.ldc_w 285, 3) := by decide +kernel
theorem dX11_readsPart_61 : decode cX11_readsPart 61 = .ok (.invokevirtual 209, 3) := by decide +kernel
theorem dX11_readsPart_64 : decode cX11_readsPart 64 = .ok (.ifCond .eq 9, 3) := by decide +kernel
theorem dX11_readsPart_67 : decode cX11_readsPart 67 = .ok (.aload_n 0, 1) := by decide +kernel
theorem dX11_readsPart_68 : decode cX11_readsPart 68 = .ok (.iload_n 1, 1) := by decide +kernel
theorem dX11_readsPart_69 : decode cX11_readsPart 69 = .ok (.invokevirtual 287, 3) := by decide +kernel
theorem dX11_readsPart_72 : decode cX11_readsPart 72 = .ok (.ireturn, 1) := by decide +kernel
theorem dX11_readsPart_73 : decode cX11_readsPart 73 = .ok (.aload_n 0, 1) := by decide +kernel
theorem dX11_readsPart_74 : decode cX11_readsPart 74 = .ok (.getfield 161, 3) := by decide +kernel
theorem dX11_readsPart_77 : decode cX11_readsPart 77 = .ok (.istore_n 2, 1) := by decide +kernel
theorem dX11_readsPart_78 : decode cX11_readsPart 78 = .ok (.aload_n 0, 1) := by decide +kernel
theorem dX11_readsPart_79 : decode cX11_readsPart 79 = .ok (.ldc_w 290, 3) := by decide +kernel
theorem dX11_readsPart_82 : decode cX11_readsPart 82 = .ok (.invokevirtual 209, 3) := by decide +kernel
theorem dX11_readsPart_85 : decode cX11_readsPart 85 = .ok (.ifCond .eq 15, 3) := by decide +kernel
theorem dX11_readsPart_88 : decode cX11_readsPart 88 = .ok (.aload_n 0, 1) := by decide +kernel
theorem dX11_readsPart_89 : decode cX11_readsPart 89 = .ok (.getfield 14, 3) := by decide +kernel
theorem dX11_readsPart_92 : decode cX11_readsPart 92 = .ok (.iload_n 1, 1) := by decide +kernel
theorem dX11_readsPart_93 : decode cX11_readsPart 93 = .ok (.iconst 5, 1) := by decide +kernel
theorem dX11_readsPart_94 : decode cX11_readsPart 94 = .ok (.iadd, 1) := by decide +kernel
theorem dX11_readsPart_95 : decode cX11_readsPart 95 = .ok (.iaload, 1) := by decide +kernel
theorem dX11_readsPart_96 : decode cX11_readsPart 96 = .ok (.iconst 1, 1) := by decide +kernel
theorem dX11_readsPart_97 : decode cX11_readsPart 97 = .ok (.if_icmp .ne 11, 3) := by decide +kernel
theorem dX11_readsPart_100 : decode cX11_readsPart 100 = .ok (.aload_n 0, 1) := by decide +kernel
theorem dX11_readsPart_101 : decode cX11_readsPart 101 = .ok (.bipush (-2), 2) := by decide +kernel
theorem dX11_readsPart_103 : decode cX11_readsPart 103 = .ok (.iload_n 2, 1) := by decide +kernel
theorem dX11_readsPart_104 : decode cX11_readsPart 104 = .ok (.invokevirtual 182, 3) := by decide +kernel
theorem dX11_readsPart_107 : decode cX11_readsPart 107 = .ok (.ireturn, 1) := by decide +kernel
theorem dX11_readsPart_108 : decode cX11_readsPart 108 = .ok (.aload_n 0, 1) := by decide +kernel
theorem dX11_readsPart_109 : decode cX11_readsPart 109 = .ok (.getfield 14, 3) := by decide +kernel
theorem dX11_readsPart_112 : decode cX11_readsPart 112 = .ok (.iload_n 1, 1) := by decide +kernel
theorem dX11_readsPart_113 : decode cX11_readsPart 113 = .ok (.iconst 5, 1) := by decide +kernel
theorem dX11_readsPart_114 : decode cX11_readsPart 114 = .ok (.iadd, 1) := by decide +kernel
theorem dX11_readsPart_115 : decode cX11_readsPart 115 = .ok (.iconst 1, 1) := by decide +kernel
theorem dX11_readsPart_116 : decode cX11_readsPart 116 = .ok (.iastore, 1) := by decide +kernel
theorem dX11_readsPart_117 : decode cX11_readsPart 117 = .ok (.iconst 1, 1) := by decide +kernel
theorem dX11_readsPart_118 : decode cX11_readsPart 118 = .ok (.ireturn, 1) := by decide +kernel
theorem dX11_readsStep_0 : decode cX11_readsStep 0 = .ok (.aload_n 0, 1) := by decide +kernel
theorem dX11_readsStep_1 : decode cX11_readsStep 1 = .ok (.getfield 260, 3) := by decide +kernel
theorem dX11_readsStep_4 : decode cX11_readsStep 4 = .ok (.bipush 6, 2) := by decide +kernel
theorem dX11_readsStep_6 : decode cX11_readsStep 6 = .ok (.if_icmp .ne 11, 3) := by decide +kernel
theorem dX11_readsStep_9 : decode cX11_readsStep 9 = .ok (.aload_n 0, 1) := by decide +kernel
theorem dX11_readsStep_10 : decode cX11_readsStep 10 = .ok (.bipush (-5), 2) := by decide +kernel
theorem dX11_readsStep_12 : decode cX11_readsStep 12 = .ok (.iload_n 2, 1) := by decide +kernel
theorem dX11_readsStep_13 : decode cX11_readsStep 13 = .ok (.invokevirtual 182, 3) := by decide +kernel
theorem dX11_readsStep_16 : decode cX11_readsStep 16 = .ok (.ireturn, 1) := by decide +kernel
theorem dX11_readsStep_17 : decode cX11_readsStep 17 = .ok (.iload_n 1, 1) := by decide +kernel
theorem dX11_readsStep_18 : decode cX11_readsStep 18 = .ok (.bipush 6, 2) := by decide +kernel
theorem dX11_readsStep_20 : decode cX11_readsStep 20 = .ok (.iadd, 1) := by decide +kernel
theorem dX11_readsStep_21 : decode cX11_readsStep 21 = .ok (.bipush 30, 2) := by decide +kernel
theorem dX11_readsStep_23 : decode cX11_readsStep 23 = .ok (.aload_n 0, 1) := by decide +kernel
theorem dX11_readsStep_24 : decode cX11_readsStep 24 = .ok (.getfield 260, 3) := by decide +kernel
theorem dX11_readsStep_27 : decode cX11_readsStep 27 = .ok (.imul, 1) := by decide +kernel
theorem dX11_readsStep_28 : decode cX11_readsStep 28 = .ok (.iadd, 1) := by decide +kernel
theorem dX11_readsStep_29 : decode cX11_readsStep 29 = .ok (.istore_n 3, 1) := by decide +kernel
theorem dX11_readsStep_30 : decode cX11_readsStep 30 = .ok (.aload_n 0, 1) := by decide +kernel
theorem dX11_readsStep_31 : decode cX11_readsStep 31 = .ok (.iconst 0, 1) := by decide +kernel
theorem dX11_readsStep_32 : decode cX11_readsStep 32 = .ok (.bipush 100, 2) := by decide +kernel
theorem dX11_readsStep_34 : decode cX11_readsStep 34 = .ok (.invokevirtual 234, 3) := by decide +kernel
theorem dX11_readsStep_37 : decode cX11_readsStep 37 = .ok (.ifCond .ne 5, 3) := by decide +kernel
theorem dX11_readsStep_40 : decode cX11_readsStep 40 = .ok (.iconst 0, 1) := by decide +kernel
theorem dX11_readsStep_41 : decode cX11_readsStep 41 = .ok (.ireturn, 1) := by decide +kernel
theorem dX11_readsStep_42 : decode cX11_readsStep 42 = .ok (.aload_n 0, 1) := by decide +kernel
theorem dX11_readsStep_43 : decode cX11_readsStep 43 = .ok (.getfield 14, 3) := by decide +kernel
theorem dX11_readsStep_46 : decode cX11_readsStep 46 = .ok (.iload_n 3, 1) := by decide +kernel
theorem dX11_readsStep_47 : decode cX11_readsStep 47 = .ok (.iconst 0, 1) := by decide +kernel
theorem dX11_readsStep_48 : decode cX11_readsStep 48 = .ok (.iadd, 1) := by decide +kernel
theorem dX11_readsStep_49 : decode cX11_readsStep 49 = .ok (.aload_n 0, 1) := by decide +kernel
theorem dX11_readsStep_50 : decode cX11_readsStep 50 = .ok (.getfield 191, 3) := by decide +kernel
theorem dX11_readsStep_53 : decode cX11_readsStep 53 = .ok (.iastore, 1) := by decide +kernel
theorem dX11_readsStep_54 : decode cX11_readsStep 54 = .ok (.aload_n 0, 1) := by decide +kernel
theorem dX11_readsStep_55 : decode cX11_readsStep 55 = .ok (.iconst 1, 1) := by decide +kernel
theorem dX11_readsStep_56 : decode cX11_readsStep 56 = .ok (.bipush 9, 2) := by decide +kernel
theorem dX11_readsStep_58 : decode cX11_readsStep 58 = .ok (.invokevirtual 234, 3) := by decide +kernel
theorem dX11_readsStep_61 : decode cX11_readsStep 61 = .ok (.ifCond .ne 5, 3) := by decide +kernel
theorem dX11_readsStep_64 : decode cX11_readsStep 64 = .ok (.iconst 0, 1) := by decide +kernel
theorem dX11_readsStep_65 : decode cX11_readsStep 65 = .ok (.ireturn, 1) := by decide +kernel
theorem dX11_readsStep_66 : decode cX11_readsStep 66 = .ok (.aload_n 0, 1) := by decide +kernel
theorem dX11_readsStep_67 : decode cX11_readsStep 67 = .ok (.getfield 14, 3) := by decide +kernel
theorem dX11_readsStep_70 : decode cX11_readsStep 70 = .ok (.iload_n 3, 1) := by decide +kernel
theorem dX11_readsStep_71 : decode cX11_readsStep 71 = .ok (.iconst 1, 1) := by decide +kernel
theorem dX11_readsStep_72 : decode cX11_readsStep 72 = .ok (.iadd, 1) := by decide +kernel
theorem dX11_readsStep_73 : decode cX11_readsStep 73 = .ok (.aload_n 0, 1) := by decide +kernel
theorem dX11_readsStep_74 : decode cX11_readsStep 74 = .ok (.getfield 191, 3) := by decide +kernel
theorem dX11_readsStep_77 : decode cX11_readsStep 77 = .ok (.iastore, 1) := by decide +kernel
theorem dX11_readsStep_78 : decode cX11_readsStep 78 = .ok (.aload_n 0, 1) := by decide +kernel
theorem dX11_readsStep_79 : decode cX11_readsStep 79 = .ok (.invokevirtual 167, 3) := by decide +kernel
theorem dX11_readsStep_82 : decode cX11_readsStep 82 = .ok (.invokestatic 171, 3) := by decide +kernel
theorem dX11_readsStep_85 : decode cX11_readsStep 85 = .ok (.ifCond .eq 13, 3) := by decide +kernel
theorem dX11_readsStep_88 : decode cX11_readsStep 88 = .ok (.aload_n 0, 1) := by decide +kernel
theorem dX11_readsStep_89 : decode cX11_readsStep 89 = .ok (.iload_n 3, 1) := by decide +kernel
theorem dX11_readsStep_90 : decode cX11_readsStep 90 = .ok (.invokevirtual 292, 3) := by decide +kernel
theorem dX11_readsStep_93 : decode cX11_readsStep 93 = .ok (.ifCond .ne (-15), 3) := by decide +kernel
theorem dX11_readsStep_96 : decode cX11_readsStep 96 = .ok (.iconst 0, 1) := by decide +kernel
theorem dX11_readsStep_97 : decode cX11_readsStep 97 = .ok (.ireturn, 1) := by decide +kernel
theorem dX11_readsStep_98 : decode cX11_readsStep 98 = .ok (.aload_n 0, 1) := by decide +kernel
theorem dX11_readsStep_99 : decode cX11_readsStep 99 = .ok (.dup, 1) := by decide +kernel
theorem dX11_readsStep_100 : decode cX11_readsStep 100 = .ok (.getfield 260, 3) := by decide +kernel
theorem dX11_readsStep_103 : decode cX11_readsStep 103 = .ok (.iconst 1, 1) := by decide +kernel
theorem dX11_readsStep_104 : decode cX11_readsStep 104 = .ok (.iadd, 1) := by decide +kernel
theorem dX11_readsStep_105 : decode cX11_readsStep 105 = .ok (.putfield 260, 3) := by decide +kernel
theorem dX11_readsStep_108 : decode cX11_readsStep 108 = .ok (.aload_n 0, 1) := by decide +kernel
theorem dX11_readsStep_109 : decode cX11_readsStep 109 = .ok (.bipush 59, 2) := by decide +kernel
theorem dX11_readsStep_111 : decode cX11_readsStep 111 = .ok (.invokevirtual 205, 3) := by decide +kernel
theorem dX11_readsStep_114 : decode cX11_readsStep 114 = .ok (.ireturn, 1) := by decide +kernel
theorem dX11_readsQuest_0 : decode cX11_readsQuest 0 = .ok (.aload_n 0, 1) := by decide +kernel
theorem dX11_readsQuest_1 : decode cX11_readsQuest 1 = .ok (.getfield 14, 3) := by decide +kernel
theorem dX11_readsQuest_4 : decode cX11_readsQuest 4 = .ok (.iconst 0, 1) := by decide +kernel
theorem dX11_readsQuest_5 : decode cX11_readsQuest 5 = .ok (.iaload, 1) := by decide +kernel
theorem dX11_readsQuest_6 : decode cX11_readsQuest 6 = .ok (.bipush 6, 2) := by decide +kernel
theorem dX11_readsQuest_8 : decode cX11_readsQuest 8 = .ok (.if_icmp .ne 11, 3) := by decide +kernel
theorem dX11_readsQuest_11 : decode cX11_readsQuest 11 = .ok (.aload_n 0, 1) := by decide +kernel
theorem dX11_readsQuest_12 : decode cX11_readsQuest 12 = .ok (.bipush (-5), 2) := by decide +kernel
theorem dX11_readsQuest_14 : decode cX11_readsQuest 14 = .ok (.iload_n 1, 1) := by decide +kernel
theorem dX11_readsQuest_15 : decode cX11_readsQuest 15 = .ok (.invokevirtual 182, 3) := by decide +kernel
theorem dX11_readsQuest_18 : decode cX11_readsQuest 18 = .ok (.ireturn, 1) := by decide +kernel
theorem dX11_readsQuest_19 : decode cX11_readsQuest 19 = .ok (.bipush 53, 2) := by decide +kernel
theorem dX11_readsQuest_21 : decode cX11_readsQuest 21 = .ok (.sipush 186, 3) := by decide +kernel
theorem dX11_readsQuest_24 : decode cX11_readsQuest 24 = .ok (.aload_n 0, 1) := by decide +kernel
theorem dX11_readsQuest_25 : decode cX11_readsQuest 25 = .ok (.getfield 14, 3) := by decide +kernel
theorem dX11_readsQuest_28 : decode cX11_readsQuest 28 = .ok (.iconst 0, 1) := by decide +kernel
theorem dX11_readsQuest_29 : decode cX11_readsQuest 29 = .ok (.iaload, 1) := by decide +kernel
theorem dX11_readsQuest_30 : decode cX11_readsQuest 30 = .ok (.imul, 1) := by decide +kernel
theorem dX11_readsQuest_31 : decode cX11_readsQuest 31 = .ok (.iadd, 1) := by decide +kernel
theorem dX11_readsQuest_32 : decode cX11_readsQuest 32 = .ok (.istore_n 2, 1) := by decide +kernel
theorem dX11_readsQuest_33 : decode cX11_readsQuest 33 = .ok (.aload_n 0, 1) := by decide +kernel
theorem dX11_readsQuest_34 : decode cX11_readsQuest 34 = .ok (.iconst 0, 1) := by decide +kernel
theorem dX11_readsQuest_35 : decode cX11_readsQuest 35 = .ok (.bipush 7, 2) := by decide +kernel
theorem dX11_readsQuest_37 : decode cX11_readsQuest 37 = .ok (.invokevirtual 234, 3) := by decide +kernel
theorem dX11_readsQuest_40 : decode cX11_readsQuest 40 = .ok (.ifCond .ne 5, 3) := by decide +kernel
theorem dX11_readsQuest_43 : decode cX11_readsQuest 43 = .ok (.iconst 0, 1) := by decide +kernel
theorem dX11_readsQuest_44 : decode cX11_readsQuest 44 = .ok (.ireturn, 1) := by decide +kernel
theorem dX11_readsQuest_45 : decode cX11_readsQuest 45 = .ok (.aload_n 0, 1) := by decide +kernel
theorem dX11_readsQuest_46 : decode cX11_readsQuest 46 = .ok (.getfield 14, 3) := by decide +kernel
theorem dX11_readsQuest_49 : decode cX11_readsQuest 49 = .ok (.iload_n 2, 1) := by decide +kernel
theorem dX11_readsQuest_50 : decode cX11_readsQuest 50 = .ok (.iconst 2, 1) := by decide +kernel
theorem dX11_readsQuest_51 : decode cX11_readsQuest 51 = .ok (.iadd, 1) := by decide +kernel
theorem dX11_readsQuest_52 : decode cX11_readsQuest 52 = .ok (.aload_n 0, 1) := by decide +kernel
theorem dX11_readsQuest_53 : decode cX11_readsQuest 53 = .ok (.getfield 191, 3) := by decide +kernel
theorem dX11_readsQuest_56 : decode cX11_readsQuest 56 = .ok (.iastore, 1) := by decide +kernel
theorem dX11_readsQuest_57 : decode cX11_readsQuest 57 = .ok (.aload_n 0, 1) := by decide +kernel
theorem dX11_readsQuest_58 : decode cX11_readsQuest 58 = .ok (.iconst 0, 1) := by decide +kernel
theorem dX11_readsQuest_59 : decode cX11_readsQuest 59 = .ok (.bipush 99, 2) := by decide +kernel
theorem dX11_readsQuest_61 : decode cX11_readsQuest 61 = .ok (.invokevirtual 234, 3) := by decide +kernel
theorem dX11_readsQuest_64 : decode cX11_readsQuest 64 = .ok (.ifCond .ne 5, 3) := by decide +kernel
theorem dX11_readsQuest_67 : decode cX11_readsQuest 67 = .ok (.iconst 0, 1) := by decide +kernel
theorem dX11_readsQuest_68 : decode cX11_readsQuest 68 = .ok (.ireturn, 1) := by decide +kernel
theorem dX11_readsQuest_69 : decode cX11_readsQuest 69 = .ok (.aload_n 0, 1) := by decide +kernel
theorem dX11_readsQuest_70 : decode cX11_readsQuest 70 = .ok (.getfield 14, 3) := by decide +kernel
theorem dX11_readsQuest_73 : decode cX11_readsQuest 73 = .ok (.iload_n 2, 1) := by decide +kernel
theorem dX11_readsQuest_74 : decode cX11_readsQuest 74 = .ok (.iconst 3, 1) := by decide +kernel
theorem dX11_readsQuest_75 : decode cX11_readsQuest 75 = .ok (.iadd, 1) := by decide +kernel
theorem dX11_readsQuest_76 : decode cX11_readsQuest 76 = .ok (.aload_n 0, 1) := by decide +kernel
theorem dX11_readsQuest_77 : decode cX11_readsQuest 77 = .ok (.getfield 191, 3) := by decide +kernel
theorem dX11_readsQuest_80 : decode cX11_readsQuest 80 = .ok (.iastore, 1) := by decide +kernel
theorem dX11_readsQuest_81 : decode cX11_readsQuest 81 = .ok (.aload_n 0, 1) := by decide +kernel
theorem dX11_readsQuest_82 : decode cX11_readsQuest 82 = .ok (.bipush 59, 2) := by decide +kernel
theorem dX11_readsQuest_84 : decode cX11_readsQuest 84 = .ok (.invokevirtual 205, 3) := by decide +kernel
theorem dX11_readsQuest_87 : decode cX11_readsQuest 87 = .ok (.ifCond .ne 5, 3) := by decide +kernel
theorem dX11_readsQuest_90 : decode cX11_readsQuest 90 = .ok (.iconst 0, 1) := by decide +kernel
theorem dX11_readsQuest_91 : decode cX11_readsQuest 91 = .ok (.ireturn, 1) := by decide +kernel
theorem dX11_readsQuest_92 : decode cX11_readsQuest 92 = .ok (.aload_n 0, 1) := by decide +kernel
theorem dX11_readsQuest_93 : decode cX11_readsQuest 93 = .ok (.iconst 0, 1) := by decide +kernel
theorem dX11_readsQuest_94 : decode cX11_readsQuest 94 = .ok (.putfield 260, 3) := by decide +kernel
theorem dX11_readsQuest_97 : decode cX11_readsQuest 97 = .ok (.aload_n 0, 1) := by decide +kernel
theorem dX11_readsQuest_98 : decode cX11_readsQuest 98 = .ok (.invokevirtual 167, 3) := by decide +kernel
theorem dX11_readsQuest_101 : decode cX11_readsQuest 101 = .ok (.pop, 1) := by decide +kernel
theorem dX11_readsQuest_102 : decode cX11_readsQuest 102 = .ok (.aload_n 0, 1) := by decide +kernel
theorem dX11_readsQuest_103 : decode cX11_readsQuest 103 = .ok (.getfield 161, 3) := by decide +kernel
theorem dX11_readsQuest_106 : decode cX11_readsQuest 106 = .ok (.istore_n 3, 1) := by decide +kernel
theorem dX11_readsQuest_107 : decode cX11_readsQuest 107 = .ok (.aload_n 0, 1) := by decide +kernel
theorem dX11_readsQuest_108 : decode cX11_readsQuest 108 = .ok (.ldc_w 295, 3) := by decide +kernel
theorem dX11_readsQuest_111 : decode cX11_readsQuest 111 = .ok (.invokevirtual 209, 3) := by decide +kernel
theorem dX11_readsQuest_114 : decode cX11_readsQuest 114 = .ok (.ifCond .eq 27, 3) := by decide +kernel
theorem dX11_readsQuest_117 : decode cX11_readsQuest 117 = .ok (.aload_n 0, 1) := by decide +kernel
theorem dX11_readsQuest_118 : decode cX11_readsQuest 118 = .ok (.iload_n 2, 1) := by decide +kernel
theorem dX11_readsQuest_119 : decode cX11_readsQuest 119 = .ok (.iload_n 3, 1) := by decide +kernel
theorem dX11_readsQuest_120 : decode cX11_readsQuest 120 = .ok (.invokevirtual 297, 3) := by decide +kernel
theorem dX11_readsQuest_123 : decode cX11_readsQuest 123 = .ok (.ifCond .ne 5, 3) := by decide +kernel
theorem dX11_readsQuest_126 : decode cX11_readsQuest 126 = .ok (.iconst 0, 1) := by decide +kernel
theorem dX11_readsQuest_127 : decode cX11_readsQuest 127 = .ok (.ireturn, 1) := by decide +kernel
theorem dX11_readsQuest_128 : decode cX11_readsQuest 128 = .ok (.aload_n 0, 1) := by decide +kernel
theorem dX11_readsQuest_129 : decode cX11_readsQuest 129 = .ok (.invokevirtual 167, 3) := by decide +kernel
theorem dX11_readsQuest_132 : decode cX11_readsQuest 132 = .ok (.pop, 1) := by decide +kernel
theorem dX11_readsQuest_133 : decode cX11_readsQuest 133 = .ok (.aload_n 0, 1) := by decide +kernel
theorem dX11_readsQuest_134 : decode cX11_readsQuest 134 = .ok (.getfield 161, 3) := by decide +kernel
theorem dX11_readsQuest_137 : decode cX11_readsQuest 137 = .ok (.istore_n 3, 1) := by decide +kernel
theorem dX11_readsQuest_138 : decode cX11_readsQuest 138 = .ok (.goto (-31), 3) := by decide +kernel
theorem dX11_readsQuest_141 : decode cX11_readsQuest 141 = .ok (.aload_n 0, 1) := by decide +kernel
theorem dX11_readsQuest_142 : decode cX11_readsQuest 142 = .ok (.getfield 260, 3) := by decide +kernel
theorem dX11_readsQuest_145 : decode cX11_readsQuest 145 = .ok (.ifCond .eq 13, 3) := by decide +kernel
theorem dX11_readsQuest_148 : decode cX11_readsQuest 148 = .ok (.aload_n 0, 1) := by decide +kernel
theorem dX11_readsQuest_149 : decode cX11_readsQuest 149 = .ok (.ldc_w 300, 3) := by decide +kernel
